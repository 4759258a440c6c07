/-! The class: an artifact more in a bag. Own work. -/
/-- the place of an artifact by its name, looked for from behind -/
def plG (x : List Nat) (L : List (Nat × List Nat)) : Nat → Nat
  | 0 => 0
  | p + 1 => match L[p]? with
    | none => p + 1
    | some y => if dg 7 x < dg 7 y.2 then plG x L p else p + 1
theorem plG_le (x : List Nat) (L : List (Nat × List Nat)) : ∀ p, plG x L p ≤ p
  | 0 => Nat.le_refl 0
  | p + 1 => by
    have := plG_le x L p
    unfold plG
    split
    · omega
    · split <;> omega
section C25
variable {l : Launch} {G : Nat → Prop} {D : zD} {M : zM} {h : zH} {o a b : Nat} {f : Nat → Option Nat} {L : List (Nat × List Nat)} {bs : List Nat} {Q : Option Value → zH → Prop} {v2 v3 v4 v5 : Value}
theorem c_G_insert (ho : h o = some (.inr (3, [.ref b, .int (nI L.length), v2, v3, v4, v5]))) (hL : asP G D h b f L) (ha : arG G D h a bs) (hbs : bs.length ≤ 240) (hl : L.length < 32) (hob : o ≠ b) (hGo : ¬ G o) (hGb : ¬ G b)
    (hQ : ∀ f', asP G D (zset (zset h b (.inl (D.2 2, 32, .inr (.inr (.inr (.inr f')))))) o (.inr (3, [.ref b, .int (nI (L.length + 1)), v2, v3, v4, v5]))) b f' (L.take (plG bs L L.length) ++ (a, bs) :: L.drop (plG bs L L.length)) → Q none (zset (zset h b (.inl (D.2 2, 32, .inr (.inr (.inr (.inr f')))))) o (.inr (3, [.ref b, .int (nI (L.length + 1)), v2, v3, v4, v5])))) :
    Runs l D M_G_insert [.ref o, .ref a] h 0 0 Q := by
  refine Runs.of rfl rfl (Nat.le_of_ble_eq_true rfl) ?_
  obtain ⟨hb, -, hA⟩ := hL
  have ho2 : ∀ e, zset h b e o = some (.inr (3, [.ref b, .int (nI L.length), v2, v3, v4, v5])) := fun e => (zset_ne hob).trans ho
  have keep : ∀ e q x, G q → h q = some x → zset h b e q = some x := fun e q x hq hx => (zset_ne (show q ≠ b from fun e9 => hGb (by rw [← e9]; exact hq))).trans hx
  have hPl := plG_le bs L L.length
  have j47 : ∀ (g : Nat → Option Nat) (p : Nat), p = plG bs L L.length → (∀ i x, L[i]? = some x → (i < p → g i = some x.1) ∧ (p ≤ i → g (i + 1) = some x.1)) → Z l D M_G_insert 0 0 Q (zset h b (.inl (D.2 2, 32, .inr (.inr (.inr (.inr g)))))) 0 0 47 [some (.ref o), some (.ref a), some (.int (nI p))] [] := by
    intro g p hp hg
    obtain ⟨b1, p1, f1, hGa, haO, hrest⟩ := ha
    refine z_aload_n d_G_insert_47 48 rfl rfl rfl ?_
    refine z_get d_G_insert_48 51 rfl f_G_11 (ho2 _) rfl ?_
    refine z_iload_n d_G_insert_51 52 rfl rfl rfl ?_
    refine z_aload_n d_G_insert_52 53 rfl rfl rfl ?_
    refine z_aast (t := 2) (r := (zcl[2]'(by decide))) d_G_insert_53 54 rfl rfl (zset_self _ _ _) (keep _ a _ hGa haO) rfl (vp_in_nI (by omega) (by omega)) ?_
    rw [nI_clamp (by omega), zset_zset]
    refine z_aload_n d_G_insert_54 55 rfl rfl rfl ?_
    refine z_dup d_G_insert_55 56 rfl rfl ?_
    refine z_get d_G_insert_56 59 rfl f_G_17 (ho2 _) rfl ?_
    refine z_iconst (v := nI 1) d_G_insert_59 60 rfl rfl ?_
    first | refine z_iaddN d_G_insert_60 61 rfl ?_ | refine z_iadd d_G_insert_60 61 rfl ?_
    refine z_put d_G_insert_61 64 rfl (p_G_17 _) (ho2 _) rfl rfl (Nat.le_of_ble_eq_true rfl) rfl ?_; dsimp only [List.set]
    refine z_vret d_G_insert_64 rfl (Nat.zero_le _) (Nat.zero_le _) (hQ _ ⟨(zset_ne (Ne.symm hob)).trans (zset_self _ _ _), ?_, ?_⟩)
    · rw [List.length_append, List.length_take, List.length_cons, List.length_drop]; omega
    · have keep2 : ∀ e e2 q x, G q → h q = some x → zset (zset h b e) o e2 q = some x := fun e e2 q x hq hx => (zset_ne (show q ≠ o from fun e9 => hGo (by rw [← e9]; exact hq))).trans (keep e q x hq hx)
      intro i x hx
      rw [← hp] at hx
      rcases ins_get (by omega) hx with ⟨i1, i2⟩ | ⟨i1, i2⟩ | ⟨i1, i2⟩
      · obtain ⟨-, u2, u3⟩ := hA i x i2
        refine ⟨?_, u2, u3.mono (fun _ z => z) (keep2 _ _)⟩
        unfold va_up
        rw [if_neg (by omega)]
        exact (hg i x i2).1 i1
      · subst i2
        refine ⟨?_, hbs, arG.mono ⟨b1, p1, f1, hGa, haO, hrest⟩ (fun _ z => z) (keep2 _ _)⟩
        unfold va_up
        rw [if_pos i1]
      · obtain ⟨-, u2, u3⟩ := hA (i - 1) x i2
        refine ⟨?_, u2, u3.mono (fun _ z => z) (keep2 _ _)⟩
        unfold va_up
        rw [if_neg (by omega)]
        have := (hg (i - 1) x i2).2 (by omega)
        rw [show i - 1 + 1 = i by omega] at this
        exact this
  have loop : ∀ (p : Nat) (g : Nat → Option Nat), p ≤ L.length → plG bs L p = plG bs L L.length → (∀ i x, L[i]? = some x → (i < p → g i = some x.1) ∧ (p ≤ i → g (i + 1) = some x.1)) → Z l D M_G_insert 0 0 Q (zset h b (.inl (D.2 2, 32, .inr (.inr (.inr (.inr g)))))) 0 0 5 [some (.ref o), some (.ref a), some (.int (nI p))] [] := by
    intro p
    induction p with
    | zero =>
      intro g _ hp hg
      refine z_iload_n d_G_insert_5 6 rfl rfl rfl ?_
      refine z_if_leN (tgt := 47) d_G_insert_6 9 rfl rfl (by omega) (fun h6 => ?_) (fun h6 => ?_)
      · exact j47 g 0 hp hg
      · omega
    | succ p ih =>
      intro g hpl hp hg
      obtain ⟨y, hy⟩ : ∃ y, L[p]? = some y := ⟨L[p]'(by omega), List.getElem?_eq_getElem (by omega)⟩
      have hgp := (hg p y hy).1 (by omega)
      obtain ⟨-, -, b2, p2, f2, hGy, hyO, -⟩ := hA p y hy
      obtain ⟨b1, p1, f1, hGa, haO, -⟩ := ha
      have hp' := hp
      rw [plG, hy] at hp
      dsimp only at hp
      refine z_iload_n d_G_insert_5 6 rfl rfl rfl ?_
      refine z_if_leN (tgt := 47) d_G_insert_6 9 rfl rfl (by omega) (fun h6 => ?_) (fun h6 => ?_)
      · omega
      · have hdy := dg_lt (d := 7) (by decide) y.2
        have hda := dg_lt (d := 7) (by decide) bs
        refine z_aload_n d_G_insert_9 10 rfl rfl rfl ?_
        refine z_get d_G_insert_10 13 rfl f_G_11 (ho2 _) rfl ?_
        refine z_iload_n d_G_insert_13 14 rfl rfl rfl ?_
        refine z_iconst (v := nI 1) d_G_insert_14 15 rfl rfl ?_
        refine z_isubN d_G_insert_15 16 rfl (by omega) ?_
        rw [show p + 1 - 1 = p by omega]
        refine z_aald (t := 2) (C := "ArtifactBags$Artifact") d_G_insert_16 17 rfl rfl (zset_self _ _ _) (vp_in_nI (by omega) (by omega)) ?_
        rw [nI_clamp (by omega), hgp]
        refine z_get d_G_insert_17 20 rfl f_G_45 (keep _ y.1 _ hGy hyO) rfl ?_
        refine z_aload_n d_G_insert_20 21 rfl rfl rfl ?_
        refine z_get d_G_insert_21 24 rfl f_G_45 (keep _ a _ hGa haO) rfl ?_
        refine z_icmp_leN (tgt := 47) d_G_insert_24 27 rfl rfl (by omega) (by omega) (fun h24 => ?_) (fun h24 => ?_)
        · rw [if_neg (by omega)] at hp
          exact j47 g (p + 1) hp hg
        · rw [if_pos (by omega)] at hp
          refine z_aload_n d_G_insert_27 28 rfl rfl rfl ?_
          refine z_get d_G_insert_28 31 rfl f_G_11 (ho2 _) rfl ?_
          refine z_iload_n d_G_insert_31 32 rfl rfl rfl ?_
          refine z_aload_n d_G_insert_32 33 rfl rfl rfl ?_
          refine z_get d_G_insert_33 36 rfl f_G_11 (ho2 _) rfl ?_
          refine z_iload_n d_G_insert_36 37 rfl rfl rfl ?_
          refine z_iconst (v := nI 1) d_G_insert_37 38 rfl rfl ?_
          refine z_isubN d_G_insert_38 39 rfl (by omega) ?_
          rw [show p + 1 - 1 = p by omega]
          refine z_aald (t := 2) (C := "ArtifactBags$Artifact") d_G_insert_39 40 rfl rfl (zset_self _ _ _) (vp_in_nI (by omega) (by omega)) ?_
          rw [nI_clamp (by omega), hgp]
          refine z_aast (t := 2) (r := (zcl[2]'(by decide))) d_G_insert_40 41 rfl rfl (zset_self _ _ _) (keep _ y.1 _ hGy hyO) rfl (vp_in_nI (by omega) (by omega)) ?_
          rw [nI_clamp (by omega), zset_zset]
          refine z_inc2 (v := nI p) d_G_insert_41 44 rfl (by rw [show Int32.ofInt (-1) = -nI 1 by decide, ← Int32.sub_eq_add_neg, pk_sub (by omega)]; rfl) rfl ?_
          refine z_goto (tgt := 5) d_G_insert_44 rfl ?_
          refine ih _ (by omega) hp (fun i x hx => ⟨fun e => ?_, fun e => ?_⟩)
          · unfold va_up
            rw [if_neg (by omega)]
            exact (hg i x hx).1 (by omega)
          · unfold va_up
            by_cases e2 : i = p
            · subst e2
              rw [hy] at hx
              cases hx
              rw [if_pos rfl]
            · rw [if_neg (by omega)]
              exact (hg i x hx).2 (by omega)
  have e0 : zset h b (.inl (D.2 2, 32, .inr (.inr (.inr (.inr f))))) = h := by
    funext q
    unfold zset
    by_cases e : q = b
    · rw [if_pos e, e, hb]
    · rw [if_neg e]
  have st := loop L.length f (Nat.le_refl _) rfl (fun i x hx => ⟨fun _ => (hA i x hx).1, fun e => by have := (List.getElem?_eq_some_iff.mp hx).1; omega⟩)
  rw [e0] at st
  refine z_aload_n d_G_insert_0 1 rfl rfl rfl ?_
  refine z_get d_G_insert_1 4 rfl f_G_17 ho rfl ?_
  refine z_ist2 d_G_insert_4 5 rfl rfl ?_
  exact st
end C25
