/-! Bridge of texts: needs, clusters, check-ins, times, parents. Own work. -/
theorem sortC_1 {cs : List CV} (h : sortC cs = 1) : cnt 68 cs = 1 ∧ cnt 82 cs = 1 ∧ cnt 77 cs = 0 ∧ stars cs = cnt 84 cs := by
  unfold sortC at h
  split at h
  · cases h
  · split at h
    next h1 => exact h1
    next => split at h <;> (try split at h) <;> cases h
theorem sortC_2 {cs : List CV} (h : sortC cs = 2) : cnt 68 cs = 1 ∧ cnt 84 cs ≠ 0 ∧ stars cs = 0 ∧ cnt 70 cs + cnt 77 cs + cnt 80 cs + cnt 82 cs = 0 := by
  unfold sortC at h
  split at h
  · cases h
  · split at h
    · cases h
    · split at h
      next h1 => exact h1
      next => split at h <;> cases h
theorem sortC_3 {cs : List CV} (h : sortC cs = 3) : cnt 77 cs ≠ 0 ∧ cnt 68 cs + cnt 70 cs + cnt 80 cs + cnt 82 cs + cnt 84 cs = 0 := by
  unfold sortC at h
  split at h
  · cases h
  · split at h
    · cases h
    · split at h
      · cases h
      · split at h
        next h1 => exact h1
        next => cases h
theorem aCs_cv {bs : List Nat} {c : CV} (h : c ∈ aCs bs) : cvOk c := (aCs_all bs).2 c h
theorem sort_03 (bs : List Nat) : sortM bs = 0 ∨ sortM bs = 1 ∨ sortM bs = 2 ∨ sortM bs = 3 := by
  have := sortM_le bs
  omega
/-- the names that a text's cards need -/
theorem need_cls (bs : List Nat) : (aCs bs).flatMap (fun c => needC (some c)) = needA bs := by
  unfold needA
  rcases sort_03 bs with h | h | h | h
  · rw [aCs_0 h, if_neg (by omega)]; rfl
  · rw [if_pos (Or.inl h), (aCs_lns (by omega)).1, List.flatMap_map]
  · rw [if_neg (by omega)]
    have h2 := sortC_2 ((aCs_lns (bs := bs) (by omega)).2.1.symm.trans h)
    rw [List.flatMap_eq_nil_iff]
    intro c hc
    have e1 := cnt_zero (n := 70) (by omega) hc
    have e2 := cnt_zero (n := 77) (by omega) hc
    have e3 := cnt_zero (n := 80) (by omega) hc
    simp [needC, e1, e2, e3]
  · rw [if_pos (Or.inr h), (aCs_lns (by omega)).1, List.flatMap_map]
theorem hasL_map {w : Nat} {nm : Int32} : ∀ {cs : List CV}, hasL w nm (cs.map some) = true ↔ ∃ c, c ∈ cs ∧ c.1 = w ∧ (oI c.2.2.2.1 = nm ∨ oI c.2.2.2.2.1 = nm)
  | [] => by simp [hasL]
  | c :: t => by
    rw [List.map_cons, hasL]
    simp only [Bool.or_eq_true, Bool.and_eq_true, decide_eq_true_eq, hasL_map (cs := t), List.mem_cons]
    constructor
    · rintro (h | ⟨d, hd, h⟩)
      · exact ⟨c, Or.inl rfl, h⟩
      · exact ⟨d, Or.inr hd, h⟩
    · rintro ⟨d, rfl | hd, h⟩
      · exact Or.inl h
      · exact Or.inr ⟨d, hd, h⟩
theorem oI_nI {o : Option Nat} {x : Nat} (ho : ∀ v, o = some v → v < 16777216) (hx : x < 16777216) : oI o = nI x ↔ o = some x := by
  cases o with
  | none =>
    constructor
    · intro h
      exfalso
      have h1 := oI_neg
      rw [h] at h1
      exact nI_pos (by omega) h1
    · intro h; cases h
  | some v =>
    have := ho v rfl
    rw [oI, nI_eq (by omega) (by omega)]
    simp
/-- the names that a text's M cards name -/
def mN (bs : List Nat) : List Nat := (aCs bs).filterMap fun c => if c.1 = 77 then c.2.2.2.1 else none
theorem mN_mem {bs : List Nat} {x : Nat} (hx : x < 16777216) : x ∈ mN bs ↔ sortM bs = 3 ∧ hasL 77 (nI x) (lns bs) = true := by
  unfold mN
  rw [List.mem_filterMap]
  constructor
  · rintro ⟨c, hc, h⟩
    split at h
    next h7 =>
      have hs : sortM bs = 3 := by
        rcases sort_03 bs with h0 | h0 | h0 | h0
        · rw [aCs_0 h0] at hc; cases hc
        · exact absurd h7 (cnt_zero (sortC_1 ((aCs_lns (by omega)).2.1.symm.trans h0)).2.2.1 hc)
        · have := sortC_2 ((aCs_lns (bs := bs) (by omega)).2.1.symm.trans h0)
          exact absurd h7 (cnt_zero (by omega) hc)
        · exact h0
      refine ⟨hs, ?_⟩
      rw [(aCs_lns (by omega)).1, hasL_map]
      exact ⟨c, hc, h7, Or.inl (by rw [h]; rfl)⟩
    next => cases h
  · rintro ⟨hs, h⟩
    rw [(aCs_lns (by omega)).1, hasL_map] at h
    obtain ⟨c, hc, h7, h⟩ := h
    have hcv := aCs_cv hc
    refine ⟨c, hc, ?_⟩
    rw [if_pos h7]
    rcases h with h | h
    · exact (oI_nI hcv.2.1 hx).1 h
    · have h8 := hcv.2.2.2.2.2.2.2 (by omega)
      rw [h8] at h
      exact absurd ((oI_nI (o := none) (by intro v hv; cases hv) hx).1 h) (by simp)
theorem mN_lt {bs : List Nat} {x : Nat} (h : x ∈ mN bs) : x < 16777216 := by
  unfold mN at h
  rw [List.mem_filterMap] at h
  obtain ⟨c, hc, h⟩ := h
  split at h
  · exact (aCs_cv hc).2.1 x h
  · cases h
/-- what the class's artifacts and the reference's have in common: the texts, no name twice -/
def smA (L : List (Nat × List Nat)) (As : List (List Nat)) : Prop := (L.map fun y => dg 7 y.2).Pairwise (· < ·) ∧ (As.map (dg 7)).Nodup ∧ ∀ b, b ∈ As ↔ ∃ a, (a, b) ∈ L
theorem dgI_eq {a b : List Nat} : nI (dg 7 a) = nI (dg 7 b) ↔ dg 7 a = dg 7 b := nI_eq (by have := dg7 a; omega) (by have := dg7 b; omega)
theorem pw_uniq : ∀ {L : List (Nat × List Nat)}, (L.map fun y => dg 7 y.2).Pairwise (· < ·) → ∀ {x y}, x ∈ L → y ∈ L → dg 7 x.2 = dg 7 y.2 → x = y
  | [], _, _, _, h, _, _ => by cases h
  | a :: t, hp, x, y, hx, hy, h => by
    rw [List.map_cons, List.pairwise_cons] at hp
    rcases List.mem_cons.1 hx with hx | hx <;> rcases List.mem_cons.1 hy with hy | hy
    · rw [hx, hy]
    · have := hp.1 _ (List.mem_map_of_mem hy); subst hx; omega
    · have := hp.1 _ (List.mem_map_of_mem hx); subst hy; omega
    · exact pw_uniq hp.2 hx hy h
theorem fdA_some {x : Int32} : ∀ {L : List (Nat × List Nat)} {y : Nat × List Nat}, fdA x L = some y → y ∈ L ∧ nI (dg 7 y.2) = x
  | [], _, h => by cases h
  | a :: t, y, h => by
    rw [fdA] at h
    split at h
    next h1 => cases h; exact ⟨List.mem_cons_self, h1⟩
    next => have := fdA_some h; exact ⟨List.mem_cons_of_mem _ this.1, this.2⟩
theorem fdA_none {x : Int32} : ∀ {L : List (Nat × List Nat)}, fdA x L = none ↔ ∀ y, y ∈ L → nI (dg 7 y.2) ≠ x
  | [] => by simp [fdA]
  | a :: t => by
    rw [fdA]
    split
    next h1 => simp [h1]
    next h1 =>
      rw [fdA_none]
      constructor
      · intro h y hy
        rcases List.mem_cons.1 hy with hy | hy
        · rw [hy]; exact h1
        · exact h y hy
      · intro h y hy; exact h y (List.mem_cons_of_mem _ hy)
theorem lk_some {As : List (List Nat)} {x : Int32} {b : List Nat} (h : lk As x = some b) : b ∈ As ∧ nI (dg 7 b) = x := by
  unfold lk at h
  exact ⟨List.mem_of_find?_eq_some h, by have := List.find?_some h; simpa using this⟩
theorem lk_none {As : List (List Nat)} {x : Int32} : lk As x = none ↔ ∀ b, b ∈ As → nI (dg 7 b) ≠ x := by
  unfold lk
  rw [List.find?_eq_none]
  simp
theorem smA.fd {L : List (Nat × List Nat)} {As : List (List Nat)} (h : smA L As) (x : Int32) : (fdA x L).map (·.2) = lk As x := by
  cases h1 : fdA x L with
  | none =>
    symm
    rw [Option.map_none, lk_none]
    rw [fdA_none] at h1
    intro b hb
    obtain ⟨a, ha⟩ := (h.2.2 b).1 hb
    exact h1 _ ha
  | some y =>
    obtain ⟨h2, h3⟩ := fdA_some h1
    cases h4 : lk As x with
    | none =>
      exact absurd h3 (lk_none.1 h4 y.2 ((h.2.2 _).2 ⟨y.1, h2⟩))
    | some b =>
      obtain ⟨h5, h6⟩ := lk_some h4
      obtain ⟨a, ha⟩ := (h.2.2 b).1 h5
      have := pw_uniq h.1 h2 ha (dgI_eq.1 (h3.trans h6.symm))
      rw [this]
      rfl
theorem smA.fdn {L : List (Nat × List Nat)} {As : List (List Nat)} (h : smA L As) (x : Int32) : fdA x L = none ↔ lk As x = none := by
  rw [← h.fd x]
  cases fdA x L <;> simp
theorem smA.len {L : List (Nat × List Nat)} {As : List (List Nat)} (h : smA L As) : L.length = As.length := by
  have hn : (L.map fun y => dg 7 y.2).Nodup := h.1.imp (fun h => Nat.ne_of_lt h)
  have h1 := nodup_len hn (U := As.map (dg 7)) (by
    intro x hx
    obtain ⟨y, hy, rfl⟩ := List.mem_map.1 hx
    exact List.mem_map_of_mem ((h.2.2 _).2 ⟨y.1, hy⟩))
  have h2 := nodup_len h.2.1 (U := L.map fun y => dg 7 y.2) (by
    intro x hx
    obtain ⟨b, hb, rfl⟩ := List.mem_map.1 hx
    obtain ⟨a, ha⟩ := (h.2.2 b).1 hb
    exact List.mem_map.2 ⟨(a, b), ha, rfl⟩)
  simp at h1 h2
  omega
/-- the digest of the files, over the class's artifacts -/
def fiC (L : List (Nat × List Nat)) : List CV → Nat → Option Nat
  | [], d => some d
  | c :: t, d => if c.1 = 70 then (match fdA (oI c.2.2.2.1) L with
    | none => none
    | some y => fiC L t (dg d y.2)) else fiC L t d
theorem fiC_files {L : List (Nat × List Nat)} {As : List (List Nat)} (h : smA L As) : ∀ (cs : List CV) (d : Nat), fiC L cs d = filesL As (cs.map some) d
  | [], _ => rfl
  | c :: t, d => by
    rw [fiC, List.map_cons, filesL]
    split
    · have h1 := h.fd (oI c.2.2.2.1)
      cases h2 : fdA (oI c.2.2.2.1) L with
      | none => rw [h2] at h1; rw [← h1]; rfl
      | some y => rw [h2] at h1; rw [← h1]; exact fiC_files h t _
    · exact fiC_files h t d
theorem fiC_lt (L : List (Nat × List Nat)) : ∀ (cs : List CV) (d e : Nat), d < 16777213 → fiC L cs d = some e → e < 16777213
  | [], d, e, h, he => by cases he; exact h
  | c :: t, d, e, h, he => by
    rw [fiC] at he
    split at he
    · split at he
      · cases he
      · exact fiC_lt L t _ e (dg_lt h _) he
    · exact fiC_lt L t d e h he
/-- is a text a check-in, as the class finds -/
def ciC (L : List (Nat × List Nat)) (bs : List Nat) : Bool := decide (aS bs = 1) && (match fiC L (aCs bs) 7 with
  | none => false
  | some d => decide (nI d = numC 82 (aCs bs)))
theorem num82 {nm : Int32} (h0 : ¬ nm < 0) : ∀ {cs : List CV}, (∀ c, c ∈ cs → cvOk c) → cnt 82 cs = 1 → (numC 82 cs = nm ↔ ∃ c, c ∈ cs ∧ c.1 = 82 ∧ (oI c.2.2.2.1 = nm ∨ oI c.2.2.2.2.1 = nm))
  | [], _, h => by cases h
  | c :: t, ho, h => by
    rw [numC]
    have hc := ho c (by simp)
    by_cases h8 : c.1 = 82
    · rw [if_pos h8, if_neg (by omega)]
      rw [cnt_cons, if_pos h8] at h
      constructor
      · intro h1; exact ⟨c, by simp, h8, Or.inl h1⟩
      · rintro ⟨d, hd, hd8, h1⟩
        rcases List.mem_cons.1 hd with hd | hd
        · subst hd
          rcases h1 with h1 | h1
          · exact h1
          · rw [hc.2.2.2.2.2.2.2 (by omega)] at h1
            rw [← h1] at h0
            exact absurd oI_neg h0
        · exact absurd hd8 (cnt_zero (by omega) hd)
    · rw [if_neg h8]
      rw [cnt_cons, if_neg h8] at h
      rw [num82 h0 (fun x hx => ho x (List.mem_cons_of_mem _ hx)) (by omega)]
      constructor
      · rintro ⟨d, hd, h1⟩; exact ⟨d, List.mem_cons_of_mem _ hd, h1⟩
      · rintro ⟨d, hd, h1⟩
        rcases List.mem_cons.1 hd with hd | hd
        · subst hd; exact absurd h1.1 h8
        · exact ⟨d, hd, h1⟩
theorem ciC_is {L : List (Nat × List Nat)} {As : List (List Nat)} (h : smA L As) (bs : List Nat) : ciC L bs = isCI As bs := by
  unfold ciC isCI
  rw [aS_sort]
  by_cases h1 : sortM bs = 1
  · have ha := aCs_lns (bs := bs) (by omega)
    rw [fiC_files h, ← ha.1]
    simp only [h1, decide_true, Bool.true_and]
    cases hf : filesL As (lns bs) 7 with
    | none => rfl
    | some d =>
      simp only
      have hd := filesL_lt As _ 7 d (by omega) hf
      have := num82 (nm := nI d) (nI_pos (by omega)) (cs := aCs bs) (fun c hc => aCs_cv hc) (sortC_1 (ha.2.1.symm.trans h1)).2.1
      rw [← hasL_map, ← ha.1] at this
      rw [Bool.eq_iff_iff, decide_eq_true_eq, ← this]
      exact eq_comm
  · simp [h1]
theorem num68 {bs : List Nat} (h : sortM bs = 1 ∨ sortM bs = 2) : numC 68 (aCs bs) = nI (tmN bs) := by
  obtain ⟨e, c, h1, h2, h3, h4⟩ := sort_D h
  have ha := aCs_lns (bs := bs) (by omega)
  have hr := rdl_card h1
  obtain ⟨r, hl⟩ : ∃ r, lns bs = some c :: r := by
    obtain ⟨n, hn⟩ : ∃ n, bs.length = n + 1 := ⟨bs.length - 1, by omega⟩
    refine ⟨lnsF bs n e, ?_⟩
    unfold lns
    rw [hn]
    exact lnsF_some (by omega) h1
  rw [hl] at ha
  have h5 := ha.1
  cases hc : aCs bs with
  | nil => rw [hc] at h5; cases h5
  | cons d t =>
    rw [hc] at h5
    simp only [List.map_cons, List.cons.injEq, Option.some.injEq] at h5
    rw [← h5.1, numC, if_pos h2, if_pos h2, h3]
theorem npC_has {nm : Int32} : ∀ {cs : List CV}, (∀ c, c ∈ cs → cvOk c) → cnt 80 cs ≤ 1 → npC nm cs = (!decide (nm < 0) && hasL 80 nm (cs.map some))
  | [], _, _ => by simp [npC, hasL]
  | c :: t, ho, h => by
    rw [npC, List.map_cons, hasL]
    have hc := ho c (by simp)
    rw [cnt_cons] at h
    by_cases h8 : c.1 = 80
    · rw [if_pos h8] at h
      have hz : hasL 80 nm (t.map some) = false := by
        rw [← Bool.not_eq_true, hasL_map]
        rintro ⟨d, hd, hd8, _⟩
        exact absurd hd8 (cnt_zero (by omega) hd)
      rw [hz]
      by_cases hm : nm = -1
      · subst hm
        rw [if_neg (by simp), npC_has (fun x hx => ho x (List.mem_cons_of_mem _ hx)) (by omega)]
        have : ((-1 : Int32) < 0) := by decide
        simp [this]
      · rw [if_pos ⟨h8, hm⟩]
        by_cases hneg : nm < 0
        · have e1 : ∀ o : Option Nat, (∀ v, o = some v → v < 16777216) → oI o ≠ nm := by
            intro o ho2 he
            cases o with
            | none => exact hm he.symm
            | some v => rw [← he] at hneg; exact nI_pos (by have := ho2 v rfl; omega) hneg
          simp [h8, hneg, e1 _ hc.2.1, e1 _ hc.2.2.1]
        · simp [h8, hneg]
    · rw [if_neg h8] at h
      rw [if_neg (fun h9 => h8 h9.1), npC_has (fun x hx => ho x (List.mem_cons_of_mem _ hx)) (by omega)]
      simp [h8]
