/-! Bags as values: tags. Own work. -/
theorem folC_tr {a b c : CV} (h1 : folC a b = true) (h2 : folC b c = true) : folC a c = true := by
  simp only [folC, Bool.or_eq_true, Bool.and_eq_true, decide_eq_true_eq] at *
  rcases h1 with h1 | ⟨h1, h3, h4⟩ <;> rcases h2 with h2 | ⟨h2, h5, h6⟩
  · exact Or.inl (by omega)
  · exact Or.inl (by omega)
  · exact Or.inl (by omega)
  · exact Or.inr ⟨by omega, h5, by omega⟩
theorem chn_pw : ∀ {cs : List CV}, chn cs = true → cs.Pairwise fun a c => folC a c = true
  | [], _ => List.Pairwise.nil
  | [_], _ => by simp
  | a :: c :: t, h => by
    rw [chn, Bool.and_eq_true] at h
    have ih := chn_pw (cs := c :: t) h.2
    rw [List.pairwise_cons]
    refine ⟨?_, ih⟩
    intro x hx
    rcases List.mem_cons.1 hx with hx | hx
    · rw [hx]; exact h.1
    · rw [List.pairwise_cons] at ih
      exact folC_tr h.1 (ih.1 x hx)
def isT (d : Nat) (c : CV) : Bool := decide (c.1 = 84) && decide (c.2.1 = d)
theorem isT_two {d : Nat} {a c : CV} (h : folC a c = true) (ha : isT d a = true) : isT d c = false := by
  simp only [isT, Bool.and_eq_true, decide_eq_true_eq] at ha
  simp only [folC, Bool.or_eq_true, Bool.and_eq_true, decide_eq_true_eq] at h
  cases hc : isT d c with
  | false => rfl
  | true =>
    simp only [isT, Bool.and_eq_true, decide_eq_true_eq] at hc
    rcases h with h | ⟨h1, _, h2⟩
    · omega
    · unfold keyC at h2
      rw [if_pos (Or.inr ha.1), if_pos (Or.inr hc.1)] at h2
      omega
theorem sgF_no {d : Nat} {nm : Int32} : ∀ {cs : List CV} (s : Int32), (∀ c, c ∈ cs → isT d c = false) → sgF d nm (cs.map some) s = s
  | [], _, _ => rfl
  | c :: t, s, h => by
    rw [List.map_cons, sgF, if_neg]
    · exact sgF_no s (fun x hx => h x (List.mem_cons_of_mem _ hx))
    · rintro ⟨h1, h2, _⟩
      have := h c (by simp)
      simp [isT, h1, h2] at this
theorem sgF_is {d : Nat} {nm : Int32} : ∀ {cs : List CV} (s : Int32), (cs.Pairwise fun a c => folC a c = true) → sgF d nm (cs.map some) s = match cs.find? (isT d) with
    | none => s
    | some c => if oI c.2.2.2.1 = nm then zb c.2.2.1 else s
  | [], _, _ => rfl
  | c :: t, s, h => by
    rw [List.pairwise_cons] at h
    rw [List.map_cons, sgF, List.find?_cons]
    cases hc : isT d c with
    | true =>
      have h1 := hc
      simp only [isT, Bool.and_eq_true, decide_eq_true_eq] at h1
      simp only
      rw [sgF_no _ (fun x hx => isT_two (h.1 x hx) hc)]
      simp [h1.1, h1.2]
    | false =>
      simp only
      rw [if_neg, sgF_is s h.2]
      rintro ⟨h1, h2, _⟩
      simp [isT, h1, h2] at hc
theorem tcC_is {m : Bool} {n x : Int32} {d : Nat} (hd : d ≤ 9) : ∀ {cs : List CV}, (∀ c, c ∈ cs → cvOk c) → tcC m n x (nI d) cs = match cs.find? (isT d) with
    | none => none
    | some c => if (if m = true then n else oI c.2.2.2.1) = x then some c else none
  | [], _ => rfl
  | c :: t, ho => by
    have hc := ho c (by simp)
    have h9 : c.2.1 ≤ 9 := hc.2.2.2.1
    rw [tcC, List.find?_cons]
    cases ht : isT d c with
    | true =>
      have h1 := ht
      simp only [isT, Bool.and_eq_true, decide_eq_true_eq] at h1
      rw [if_pos ⟨h1.1, by rw [h1.2]⟩]
    | false =>
      rw [if_neg]
      · exact tcC_is hd (fun x hx => ho x (List.mem_cons_of_mem _ hx))
      · rintro ⟨h1, h2⟩
        rw [nI_eq (by omega) (by omega)] at h2
        simp [isT, h1, h2] at ht
theorem stars_all : ∀ {cs : List CV}, stars cs = cnt 84 cs → ∀ c, c ∈ cs → c.1 = 84 → c.2.2.2.1 = none
  | [], _, _, h, _ => by cases h
  | a :: t, h, c, hc, h8 => by
    have hle : ∀ l : List CV, stars l ≤ cnt 84 l := by
      intro l
      induction l with
      | nil => exact Nat.le_refl _
      | cons b u ih =>
        rw [stars_cons, cnt_cons]
        by_cases h1 : b.1 = 84
        · rw [if_pos h1]; split <;> omega
        · rw [if_neg (fun h2 => h1 h2.1), if_neg h1]; omega
    have h2 := hle t
    rw [stars_cons, cnt_cons] at h
    rcases List.mem_cons.1 hc with hc | hc
    · subst hc
      rw [if_pos h8] at h
      by_cases hx : c.2.2.2.1 = none
      · exact hx
      · rw [if_neg (fun h3 => hx h3.2)] at h
        omega
    · refine stars_all ?_ c hc h8
      by_cases h1 : a.1 = 84
      · rw [if_pos h1] at h
        split at h <;> omega
      · rw [if_neg (fun h3 => h1 h3.1), if_neg h1] at h
        omega
theorem stars_no {cs : List CV} (h : stars cs = 0) {c : CV} (hc : c ∈ cs) (h8 : c.1 = 84) : c.2.2.2.1 ≠ none := by
  intro hn
  unfold stars at h
  have h2 := List.length_eq_zero_iff.1 h
  have h3 : c ∈ cs.filter fun x => decide (x.1 = 84) && x.2.2.2.1.isNone := by simp [hc, h8, hn]
  rw [h2] at h3
  cases h3
def tcA (nm : Int32) (d : Nat) (a : List Nat) : Option CV := tcC (decide (aS a = 1)) (nI (dg 7 a)) nm (nI d) (aCs a)
theorem find_T {d : Nat} {cs : List CV} {c : CV} (h : cs.find? (isT d) = some c) : c ∈ cs ∧ c.1 = 84 := by
  refine ⟨List.mem_of_find?_eq_some h, ?_⟩
  have := List.find?_some h
  simp only [isT, Bool.and_eq_true, decide_eq_true_eq] at this
  exact this.1
theorem got_is {nm : Int32} {d : Nat} (hd : d ≤ 9) (a : List Nat) : (tcA nm d a = none → gotA nm d a = -1) ∧ ∀ c, tcA nm d a = some c → gotA nm d a = zb c.2.2.1 ∧ (sortM a = 1 ∨ sortM a = 2) := by
  unfold tcA gotA
  rw [tcC_is hd (fun c hc => aCs_cv hc), aS_sort]
  rcases sort_03 a with h | h | h | h
  · rw [aCs_0 h]
    simp [h]
  · have ha := aCs_lns (bs := a) (by omega)
    have h1 := sortC_1 (ha.2.1.symm.trans h)
    rw [if_neg (by omega)]
    simp only [h, decide_true, if_true, true_and]
    rw [ha.1, sgF_is _ (chn_pw ha.2.2.1)]
    cases hf : (aCs a).find? (isT d) with
    | none => simp
    | some c =>
      obtain ⟨f1, f2⟩ := find_T hf
      have hx := stars_all h1.2.2.2 c f1 f2
      simp only [hx]
      by_cases hn : nI (dg 7 a) = nm
      · simp [hn, oI]
      · simp [hn]
  · have ha := aCs_lns (bs := a) (by omega)
    have h1 := sortC_2 (ha.2.1.symm.trans h)
    simp only [h]
    rw [ha.1, sgF_is _ (chn_pw ha.2.2.1)]
    cases hf : (aCs a).find? (isT d) with
    | none => simp
    | some c =>
      obtain ⟨f1, f2⟩ := find_T hf
      have hx := stars_no h1.2.2.1 f1 f2
      cases hv : c.2.2.2.1 with
      | none => exact absurd hv hx
      | some v =>
        have hlt := (aCs_cv f1).2.1 v hv
        by_cases hn : nm < 0
        · have hne : oI (some v) ≠ nm := by
            intro he
            rw [← he] at hn
            exact nI_pos (by omega) hn
          simp [hv, hn, hne]
        · by_cases he : oI (some v) = nm
          · simp [hv, hn, he]
          · simp [hv, hn, he]
  · have ha := aCs_lns (bs := a) (by omega)
    have h1 := sortC_3 (ha.2.1.symm.trans h)
    have hf : (aCs a).find? (isT d) = none := by
      rw [List.find?_eq_none]
      intro c hc
      have := cnt_zero (n := 84) (by omega) hc
      simp [isT, this]
    rw [hf]
    simp [h]
theorem zb_nn (b : Bool) : ¬ zb b < 0 := by cases b <;> decide
theorem got_P {nm : Int32} {d : Nat} (hd : d ≤ 9) (a : List Nat) : ¬ gotA nm d a < 0 ↔ tcA nm d a ≠ none := by
  cases h : tcA nm d a with
  | none => rw [(got_is hd a).1 h]; simp
  | some c => rw [((got_is hd a).2 c h).1]; simp [zb_nn]
theorem bef_tr {a b c : List Nat} (h1 : bef a b = true) (h2 : bef b c = true) : bef a c = true := by
  simp only [bef, Bool.or_eq_true, Bool.and_eq_true, decide_eq_true_eq] at *
  omega
theorem bef_to {a b : List Nat} (h1 : bef a b = false) (h2 : dg 7 a ≠ dg 7 b) : bef b a = true := by
  have : ¬ bef a b = true := by simp [h1]
  simp only [bef, Bool.or_eq_true, Bool.and_eq_true, decide_eq_true_eq] at *
  omega
theorem ex_max (P : List Nat → Prop) [DecidablePred P] : ∀ {l : List (List Nat)}, (l.map (dg 7)).Nodup → (∃ a, a ∈ l ∧ P a) → ∃ a, a ∈ l ∧ P a ∧ ∀ b, b ∈ l → P b → b = a ∨ bef a b = true
  | [], _, ⟨a, h, _⟩ => by cases h
  | c :: t, hn, hx => by
    rw [List.map_cons, List.nodup_cons] at hn
    by_cases ht : ∃ a, a ∈ t ∧ P a
    · obtain ⟨a, h1, h2, h3⟩ := ex_max P hn.2 ht
      have hne : dg 7 a ≠ dg 7 c := fun he => hn.1 (by rw [← he]; exact List.mem_map_of_mem h1)
      by_cases hc : P c
      · cases hb : bef a c with
        | true =>
          refine ⟨a, List.mem_cons_of_mem _ h1, h2, ?_⟩
          intro b hb1 hb2
          rcases List.mem_cons.1 hb1 with h | h
          · rw [h]; exact Or.inr hb
          · exact h3 b h hb2
        | false =>
          refine ⟨c, by simp, hc, ?_⟩
          intro b hb1 hb2
          rcases List.mem_cons.1 hb1 with h | h
          · exact Or.inl h
          · right
            have h4 := bef_to hb hne
            rcases h3 b h hb2 with h5 | h5
            · rw [h5]; exact h4
            · exact bef_tr h4 h5
      · refine ⟨a, List.mem_cons_of_mem _ h1, h2, ?_⟩
        intro b hb1 hb2
        rcases List.mem_cons.1 hb1 with h | h
        · rw [h] at hb2; exact absurd hb2 hc
        · exact h3 b h hb2
    · obtain ⟨a, h1, h2⟩ := hx
      have hac : a = c := by
        rcases List.mem_cons.1 h1 with h | h
        · exact h
        · exact absurd ⟨a, h, h2⟩ ht
      subst hac
      refine ⟨a, by simp, h2, ?_⟩
      intro b hb1 hb2
      rcases List.mem_cons.1 hb1 with h | h
      · exact Or.inl h
      · exact absurd ⟨b, h, hb2⟩ ht
theorem tagF_stay {nm : Int32} {d : Nat} : ∀ {l : List (List Nat)} {z : Int32 × Int32 × Int32}, (∀ b, b ∈ l → ¬ gotA nm d b < 0 → ¬ (z.2.1 < nI (tmN b) ∨ (nI (tmN b) = z.2.1 ∧ z.2.2 < nI (dg 7 b)))) → tagF nm d l z = z.1
  | [], _, _ => rfl
  | b :: t, z, h => by
    rw [tagF, if_neg (fun h1 => h b (by simp) h1.1 h1.2)]
    exact tagF_stay (fun c hc => h c (List.mem_cons_of_mem _ hc))
theorem nI_bef {a b : List Nat} (ha : tmN a ≤ 9999) (hb : tmN b ≤ 9999) : (nI (tmN b) < nI (tmN a) ∨ (nI (tmN a) = nI (tmN b) ∧ nI (dg 7 b) < nI (dg 7 a))) ↔ bef a b = true := by
  have d1 := dg7 a
  have d2 := dg7 b
  rw [nI_ltI (by omega) (by omega), nI_ltI (by omega) (by omega), nI_eq (by omega) (by omega)]
  simp only [bef, Bool.or_eq_true, Bool.and_eq_true, decide_eq_true_eq]
  omega
theorem tagF_max {nm : Int32} {d : Nat} {a : List Nat} (hP : ¬ gotA nm d a < 0) : ∀ {l : List (List Nat)} {z : Int32 × Int32 × Int32}, a ∈ l → (∀ b, b ∈ l → ¬ gotA nm d b < 0 → tmN b ≤ 9999) → (∀ b, b ∈ l → ¬ gotA nm d b < 0 → b = a ∨ bef a b = true) → (z.2.1 < nI (tmN a) ∨ (nI (tmN a) = z.2.1 ∧ z.2.2 < nI (dg 7 a))) → tagF nm d l z = gotA nm d a
  | [], _, h, _, _, _ => by cases h
  | c :: t, z, h, ht, hm, hz => by
    rw [tagF]
    have ha9 := ht a h hP
    by_cases hc : c = a
    · subst hc
      rw [if_pos ⟨hP, hz⟩, tagF_stay]
      intro b hb hPb
      have hb9 := ht b (List.mem_cons_of_mem _ hb) hPb
      rw [nI_bef (a := b) (b := c) hb9 ha9]
      intro h1
      rcases hm b (List.mem_cons_of_mem _ hb) hPb with h2 | h2
      · rw [h2] at h1
        simp [bef] at h1
      · have := bef_tr h1 h2
        simp [bef] at this
    · have hat : a ∈ t := (List.mem_cons.1 h).resolve_left (fun he => hc he.symm)
      split
      next h1 =>
        refine tagF_max hP hat (fun b hb => ht b (List.mem_cons_of_mem _ hb)) (fun b hb => hm b (List.mem_cons_of_mem _ hb)) ?_
        rw [nI_bef ha9 (ht c (by simp) h1.1)]
        exact (hm c (by simp) h1.1).resolve_left hc
      next => exact tagF_max hP hat (fun b hb => ht b (List.mem_cons_of_mem _ hb)) (fun b hb => hm b (List.mem_cons_of_mem _ hb)) hz
theorem tgF_stay {x : Int32} {d : Nat} : ∀ {l : List (Nat × List Nat)} {o : Option CV} {tm : Int32}, (∀ y, y ∈ l → tcA x d y.2 ≠ none → ¬ tm ≤ numC 68 (aCs y.2)) → tgF x (nI d) l o tm = o
  | [], _, _, _ => rfl
  | y :: t, o, tm, h => by
    rw [tgF]
    have ih := tgF_stay (l := t) (o := o) (tm := tm) (fun c hc => h c (List.mem_cons_of_mem _ hc))
    cases hc : tcA x d y.2 with
    | none => rw [show tcC (decide (aS y.2 = 1)) (nI (dg 7 y.2)) x (nI d) (aCs y.2) = none from hc]; exact ih
    | some c =>
      rw [show tcC (decide (aS y.2 = 1)) (nI (dg 7 y.2)) x (nI d) (aCs y.2) = some c from hc]
      simp only
      rw [if_neg (h y (by simp) (by rw [hc]; simp))]
      exact ih
theorem tgF_max {x : Int32} {d : Nat} (hd : d ≤ 9) {y : Nat × List Nat} {c : CV} (hy : tcA x d y.2 = some c) : ∀ {l : List (Nat × List Nat)} {o : Option CV} {tm : Int32}, y ∈ l → (l.map fun y => dg 7 y.2).Pairwise (· < ·) → (∀ b, b ∈ l → tcA x d b.2 ≠ none → b = y ∨ bef y.2 b.2 = true) → tm ≤ nI (tmN y.2) → tgF x (nI d) l o tm = some c
  | [], _, _, h, _, _, _ => by cases h
  | w :: t, o, tm, h, hp, hm, htm => by
    rw [tgF]
    rw [List.map_cons, List.pairwise_cons] at hp
    have hsy := ((got_is hd y.2).2 c hy).2
    have hy9 := tmN_le hsy
    by_cases hw : w = y
    · subst hw
      rw [show tcC (decide (aS w.2 = 1)) (nI (dg 7 w.2)) x (nI d) (aCs w.2) = some c from hy]
      simp only
      rw [num68 hsy, if_pos htm, tgF_stay]
      intro b hb hPb hle
      have hbg : dg 7 w.2 < dg 7 b.2 := hp.1 _ (List.mem_map_of_mem (f := fun y : Nat × List Nat => dg 7 y.2) hb)
      cases hcb : tcA x d b.2 with
      | none => exact hPb hcb
      | some e =>
        have hsb := ((got_is hd b.2).2 e hcb).2
        have hb9 := tmN_le hsb
        rw [num68 hsb, nI_leI (by omega) (by omega)] at hle
        rcases hm b (List.mem_cons_of_mem _ hb) hPb with h2 | h2
        · rw [h2] at hbg; omega
        · simp only [bef, Bool.or_eq_true, Bool.and_eq_true, decide_eq_true_eq] at h2
          omega
    · have hyt : y ∈ t := (List.mem_cons.1 h).resolve_left (fun he => hw he.symm)
      have ih := fun (o : Option CV) (tm : Int32) htm => tgF_max hd hy (l := t) (o := o) (tm := tm) hyt hp.2 (fun b hb => hm b (List.mem_cons_of_mem _ hb)) htm
      cases hcw : tcA x d w.2 with
      | none => rw [show tcC (decide (aS w.2 = 1)) (nI (dg 7 w.2)) x (nI d) (aCs w.2) = none from hcw]; exact ih _ _ htm
      | some e =>
        rw [show tcC (decide (aS w.2 = 1)) (nI (dg 7 w.2)) x (nI d) (aCs w.2) = some e from hcw]
        simp only
        split
        · refine ih _ _ ?_
          have hsw := ((got_is hd w.2).2 e hcw).2
          have hw9 := tmN_le hsw
          rw [num68 hsw, nI_leI (by omega) (by omega)]
          have h2 := (hm w (by simp) (by rw [hcw]; simp)).resolve_left hw
          simp only [bef, Bool.or_eq_true, Bool.and_eq_true, decide_eq_true_eq] at h2
          omega
        · exact ih _ _ htm
theorem m1_lt {n : Nat} (h : n < 2 ^ 31) : (-1 : Int32) < nI n := by
  have h1 := nI_pos' h
  rw [Int32.lt_iff_toInt_lt]
  rw [Int32.le_iff_toInt_le] at h1
  have : (-1 : Int32).toInt = -1 := by decide
  have h0 : (0 : Int32).toInt = 0 := by decide
  omega
theorem bgR.tag {V : BV} {As : List (List Nat)} {T K : List Nat} (h : bgR V As T K) (nm : Int32) {d : Nat} (hd : d ≤ 9) : (tgF nm (nI d) V.L none (-1) = none → tagF nm d As (-1, -1, -1) = -1) ∧ ∀ c, tgF nm (nI d) V.L none (-1) = some c → tagF nm d As (-1, -1, -1) = zb c.2.2.1 := by
  by_cases hx : ∃ a, a ∈ As ∧ ¬ gotA nm d a < 0
  · obtain ⟨a, h1, h2, h3⟩ := ex_max (fun a => ¬ gotA nm d a < 0) h.s.2.1 hx
    have h9 : ∀ b, ¬ gotA nm d b < 0 → tmN b ≤ 9999 := by
      intro b hb
      rw [got_P hd] at hb
      cases hc : tcA nm d b with
      | none => exact absurd hc hb
      | some c => exact tmN_le ((got_is hd b).2 c hc).2
    have ha9 := h9 a h2
    have e1 : tagF nm d As (-1, -1, -1) = gotA nm d a := tagF_max h2 h1 (fun b _ hb => h9 b hb) h3 (Or.inl (m1_lt (by omega)))
    obtain ⟨q, hq⟩ := (h.s.2.2 a).1 h1
    rw [got_P hd] at h2
    cases hc : tcA nm d a with
    | none => exact absurd hc h2
    | some c =>
      have e2 : tgF nm (nI d) V.L none (-1) = some c := by
        refine tgF_max hd (y := (q, a)) hc hq h.s.1 ?_ ?_
        · intro b hb hPb
          rcases h3 b.2 ((h.s.2.2 _).2 ⟨b.1, hb⟩) ((got_P hd _).2 hPb) with h4 | h4
          · exact Or.inl (pw_uniq h.s.1 hb hq (by rw [h4]))
          · exact Or.inr h4
        · have := m1_lt (n := tmN a) (by omega)
          rw [Int32.lt_iff_toInt_lt] at this
          rw [Int32.le_iff_toInt_le]
          simp only
          omega
      rw [e1, e2, ((got_is hd a).2 c hc).1]
      exact ⟨fun h4 => (by cases h4), fun c2 h4 => (by cases h4; rfl)⟩
  · have hno : ∀ b, b ∈ As → gotA nm d b < 0 := fun b hb => Decidable.byContradiction (fun h1 => hx ⟨b, hb, h1⟩)
    have e1 : tagF nm d As (-1, -1, -1) = -1 := tagF_stay (fun b hb h1 => absurd (hno b hb) h1)
    have e2 : tgF nm (nI d) V.L none (-1) = none := tgF_stay (fun y hy h1 => absurd (hno y.2 ((h.s.2.2 _).2 ⟨y.1, hy⟩)) ((got_P hd _).2 h1))
    rw [e1, e2]
    exact ⟨fun _ => rfl, fun c h4 => (by cases h4)⟩
