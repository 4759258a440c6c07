/-! The class: a check-in more in a history. Own work. -/
def eB (x y : List Nat) : Bool := if numC 68 (aCs x) = numC 68 (aCs y) then decide (nI (dg 7 x) < nI (dg 7 y)) else decide (numC 68 (aCs x) < numC 68 (aCs y))
/-- the place of a check-in, looked for from behind -/
def plH (x : List Nat) (L : List (Nat × List Nat)) : Nat → Nat
  | 0 => 0
  | p + 1 => match L[p]? with
    | none => p + 1
    | some y => if eB x y.2 = true then plH x L p else p + 1
theorem plH_le (x : List Nat) (L : List (Nat × List Nat)) : ∀ p, plH x L p ≤ p
  | 0 => Nat.le_refl 0
  | p + 1 => by
    have := plH_le x L p
    unfold plH
    split
    · omega
    · split <;> omega
theorem ins_get {α : Type} {L : List α} {P : Nat} {x y : α} (hP : P ≤ L.length) {i : Nat} (h : (L.take P ++ x :: L.drop P)[i]? = some y) : (i < P ∧ L[i]? = some y) ∨ (i = P ∧ x = y) ∨ (P < i ∧ L[i - 1]? = some y) := by
  rw [List.getElem?_append, List.length_take, Nat.min_eq_left hP] at h
  by_cases h1 : i < P
  · rw [if_pos h1, List.getElem?_take_of_lt h1] at h
    exact Or.inl ⟨h1, h⟩
  · rw [if_neg h1] at h
    by_cases h2 : i = P
    · subst h2
      rw [Nat.sub_self] at h
      exact Or.inr (Or.inl ⟨rfl, Option.some.inj h⟩)
    · rw [show i - P = (i - P - 1) + 1 by omega, List.getElem?_cons_succ, List.getElem?_drop, show P + (i - P - 1) = i - 1 by omega] at h
      exact Or.inr (Or.inr ⟨by omega, h⟩)
section C21
variable {l : Launch} {G : Nat → Prop} {D : zD} {M : zM} {h : zH} {o a b : Nat} {f : Nat → Option Nat} {L : List (Nat × List Nat)} {bs : List Nat} {Q : Option Value → zH → Prop}
theorem c_H_add (ho : h o = some (.inr (5, [.ref b, .int (nI L.length)]))) (hL : asP G D h b f L) (ha : arG G D h a bs) (hbs : bs.length ≤ 240) (hl : L.length < 32) (hob : o ≠ b) (hGo : ¬ G o) (hGb : ¬ G b)
    (hQ : ∀ f', asP G D (zset (zset h b (.inl (D.2 2, 32, .inr (.inr (.inr (.inr f')))))) o (.inr (5, [.ref b, .int (nI (L.length + 1))]))) b f' (L.take (plH bs L L.length) ++ (a, bs) :: L.drop (plH bs L L.length)) → Q none (zset (zset h b (.inl (D.2 2, 32, .inr (.inr (.inr (.inr f')))))) o (.inr (5, [.ref b, .int (nI (L.length + 1))])))) :
    Runs l D M_H_add [.ref o, .ref a] h 0 0 Q := by
  refine Runs.of rfl rfl (Nat.le_of_ble_eq_true rfl) ?_
  obtain ⟨hb, -, hA⟩ := hL
  have ho2 : ∀ e, zset h b e o = some (.inr (5, [.ref b, .int (nI L.length)])) := fun e => (zset_ne hob).trans ho
  have keep : ∀ e q x, G q → h q = some x → zset h b e q = some x := fun e q x hq hx => (zset_ne (show q ≠ b from fun e9 => hGb (by rw [← e9]; exact hq))).trans hx
  have hPl := plH_le bs L L.length
  have j54 : ∀ (g : Nat → Option Nat) (p : Nat), p = plH bs L L.length → (∀ i x, L[i]? = some x → (i < p → g i = some x.1) ∧ (p ≤ i → g (i + 1) = some x.1)) → Z l D M_H_add 0 0 Q (zset h b (.inl (D.2 2, 32, .inr (.inr (.inr (.inr g)))))) 0 0 54 [some (.ref o), some (.ref a), some (.int (nI p))] [] := by
    intro g p hp hg
    obtain ⟨b1, p1, f1, hGa, haO, hrest⟩ := ha
    refine z_aload_n d_H_add_54 55 rfl rfl rfl ?_
    refine z_get d_H_add_55 58 rfl f_H_11 (ho2 _) rfl ?_
    refine z_iload_n d_H_add_58 59 rfl rfl rfl ?_
    refine z_aload_n d_H_add_59 60 rfl rfl rfl ?_
    refine z_aast (t := 2) (r := (zcl[2]'(by decide))) d_H_add_60 61 rfl rfl (zset_self _ _ _) (keep _ a _ hGa haO) rfl (vp_in_nI (by omega) (by omega)) ?_
    rw [nI_clamp (by omega), zset_zset]
    refine z_aload_n d_H_add_61 62 rfl rfl rfl ?_
    refine z_dup d_H_add_62 63 rfl rfl ?_
    refine z_get d_H_add_63 66 rfl f_H_17 (ho2 _) rfl ?_
    refine z_iconst (v := nI 1) d_H_add_66 67 rfl rfl ?_
    first | refine z_iaddN d_H_add_67 68 rfl ?_ | refine z_iadd d_H_add_67 68 rfl ?_
    refine z_put d_H_add_68 71 rfl (p_H_17 _) (ho2 _) rfl rfl (Nat.le_of_ble_eq_true rfl) rfl ?_; dsimp only [List.set]
    refine z_vret d_H_add_71 rfl (Nat.zero_le _) (Nat.zero_le _) (hQ _ ⟨(zset_ne (Ne.symm hob)).trans (zset_self _ _ _), ?_, ?_⟩)
    · rw [List.length_append, List.length_take, List.length_cons, List.length_drop]; omega
    · have keep2 : ∀ e e2 q x, G q → h q = some x → zset (zset h b e) o e2 q = some x := fun e e2 q x hq hx => (zset_ne (show q ≠ o from fun e9 => hGo (by rw [← e9]; exact hq))).trans (keep e q x hq hx)
      intro i x hx
      rw [← hp] at hx
      rcases ins_get (by omega) hx with ⟨i1, i2⟩ | ⟨i1, i2⟩ | ⟨i1, i2⟩
      · obtain ⟨-, u2, u3⟩ := hA i x i2
        refine ⟨?_, u2, u3.mono (fun _ z => z) (keep2 _ _)⟩
        unfold va_up
        rw [if_neg (by omega)]
        exact (hg i x i2).1 i1
      · subst i2
        refine ⟨?_, hbs, arG.mono ⟨b1, p1, f1, hGa, haO, hrest⟩ (fun _ z => z) (keep2 _ _)⟩
        unfold va_up
        rw [if_pos i1]
      · obtain ⟨-, u2, u3⟩ := hA (i - 1) x i2
        refine ⟨?_, u2, u3.mono (fun _ z => z) (keep2 _ _)⟩
        unfold va_up
        rw [if_neg (by omega)]
        have := (hg (i - 1) x i2).2 (by omega)
        rw [show i - 1 + 1 = i by omega] at this
        exact this
  have loop : ∀ (p : Nat) (g : Nat → Option Nat), p ≤ L.length → plH bs L p = plH bs L L.length → (∀ i x, L[i]? = some x → (i < p → g i = some x.1) ∧ (p ≤ i → g (i + 1) = some x.1)) → Z l D M_H_add 0 0 Q (zset h b (.inl (D.2 2, 32, .inr (.inr (.inr (.inr g)))))) 0 0 15 [some (.ref o), some (.ref a), some (.int (nI p))] [] := by
    intro p
    induction p with
    | zero =>
      intro g _ hp hg
      refine z_iload_n d_H_add_15 16 rfl rfl rfl ?_
      refine z_if_leN (tgt := 54) d_H_add_16 19 rfl rfl (by omega) (fun h16 => ?_) (fun h16 => ?_)
      · exact j54 g 0 hp hg
      · omega
    | succ p ih =>
      intro g hpl hp hg
      obtain ⟨y, hy⟩ : ∃ y, L[p]? = some y := ⟨L[p]'(by omega), List.getElem?_eq_getElem (by omega)⟩
      have hgp := (hg p y hy).1 (by omega)
      obtain ⟨-, -, b2, p2, f2, hGy, hyO, -⟩ := hA p y hy
      obtain ⟨b1, p1, f1, hGa, haO, -⟩ := ha
      have hp' := hp
      rw [plH, hy] at hp
      dsimp only at hp
      refine z_iload_n d_H_add_15 16 rfl rfl rfl ?_
      refine z_if_leN (tgt := 54) d_H_add_16 19 rfl rfl (by omega) (fun h16 => ?_) (fun h16 => ?_)
      · omega
      · refine z_aload_n d_H_add_19 20 rfl rfl rfl ?_
        refine z_aload_n d_H_add_20 21 rfl rfl rfl ?_
        refine z_get d_H_add_21 24 rfl f_H_11 (ho2 _) rfl ?_
        refine z_iload_n d_H_add_24 25 rfl rfl rfl ?_
        refine z_iconst (v := nI 1) d_H_add_25 26 rfl rfl ?_
        refine z_isubN d_H_add_26 27 rfl (by omega) ?_
        rw [show p + 1 - 1 = p by omega]
        refine z_aald (t := 2) (C := "ArtifactBags$Artifact") d_H_add_27 28 rfl rfl (zset_self _ _ _) (vp_in_nI (by omega) (by omega)) ?_
        rw [nI_clamp (by omega), hgp]
        refine z_cV1 d_H_add_28 31 rfl mv_A_isEarlierThan kl_H_21 (by decide) 0 0 rfl rfl (Nat.zero_le _) (Nat.zero_le _) (keep _ a _ hGa haO) (fun Q' q => c_A_isEarlierThan _ _ _ _ (keep _ a _ hGa haO) (keep _ y.1 _ hGy hyO) q) rfl rfl (Nat.le_of_ble_eq_true rfl) ?_
        refine z_if_eqB (tgt := 54) d_H_add_31 34 rfl rfl (fun h31 => ?_) (fun h31 => ?_)
        · have : ¬ eB bs y.2 = true := by rw [show eB bs y.2 = false from h31]; decide
          rw [if_neg this] at hp
          exact j54 g (p + 1) hp hg
        · rw [if_pos (show eB bs y.2 = true from h31)] at hp
          refine z_aload_n d_H_add_34 35 rfl rfl rfl ?_
          refine z_get d_H_add_35 38 rfl f_H_11 (ho2 _) rfl ?_
          refine z_iload_n d_H_add_38 39 rfl rfl rfl ?_
          refine z_aload_n d_H_add_39 40 rfl rfl rfl ?_
          refine z_get d_H_add_40 43 rfl f_H_11 (ho2 _) rfl ?_
          refine z_iload_n d_H_add_43 44 rfl rfl rfl ?_
          refine z_iconst (v := nI 1) d_H_add_44 45 rfl rfl ?_
          refine z_isubN d_H_add_45 46 rfl (by omega) ?_
          rw [show p + 1 - 1 = p by omega]
          refine z_aald (t := 2) (C := "ArtifactBags$Artifact") d_H_add_46 47 rfl rfl (zset_self _ _ _) (vp_in_nI (by omega) (by omega)) ?_
          rw [nI_clamp (by omega), hgp]
          refine z_aast (t := 2) (r := (zcl[2]'(by decide))) d_H_add_47 48 rfl rfl (zset_self _ _ _) (keep _ y.1 _ hGy hyO) rfl (vp_in_nI (by omega) (by omega)) ?_
          rw [nI_clamp (by omega), zset_zset]
          refine z_inc2 (v := nI p) d_H_add_48 51 rfl (by rw [show Int32.ofInt (-1) = -nI 1 by decide, ← Int32.sub_eq_add_neg, pk_sub (by omega)]; rfl) rfl ?_
          refine z_goto (tgt := 15) d_H_add_51 rfl ?_
          refine ih _ (by omega) hp (fun i x hx => ⟨fun e => ?_, fun e => ?_⟩)
          · unfold va_up
            rw [if_neg (by omega)]
            exact (hg i x hx).1 (by omega)
          · unfold va_up
            by_cases e2 : i = p
            · subst e2
              rw [hy] at hx
              cases hx
              rw [if_pos rfl]
            · rw [if_neg (by omega)]
              exact (hg i x hx).2 (by omega)
  have e0 : zset h b (.inl (D.2 2, 32, .inr (.inr (.inr (.inr f))))) = h := by
    funext q
    unfold zset
    by_cases e : q = b
    · rw [if_pos e, e, hb]
    · rw [if_neg e]
  have st := loop L.length f (Nat.le_refl _) rfl (fun i x hx => ⟨fun _ => (hA i x hx).1, fun e => by have := (List.getElem?_eq_some_iff.mp hx).1; omega⟩)
  rw [e0] at st
  refine z_aload_n d_H_add_0 1 rfl rfl rfl ?_
  refine z_get d_H_add_1 4 rfl f_H_17 ho rfl ?_
  refine z_bipush (v := nI 32) d_H_add_4 6 rfl rfl ?_
  refine z_icmp_ltN (tgt := 10) d_H_add_6 9 rfl rfl (by omega) (by omega) (fun h6 => ?_) (fun h6 => ?_)
  · refine z_aload_n d_H_add_10 11 rfl rfl rfl ?_
    refine z_get d_H_add_11 14 rfl f_H_17 ho rfl ?_
    refine z_ist2 d_H_add_14 15 rfl rfl ?_
    exact st
  · omega
end C21
