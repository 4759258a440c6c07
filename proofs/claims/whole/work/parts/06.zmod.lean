/-! The reference's world: its object at o, its nine arrays behind it; va: the arrays' contents, vf: the int fields (9 .. 16). Own work. -/
def zln : Nat → Nat
  | 0 => 15840
  | 1 => 66
  | 2 => 66
  | 3 => 2
  | 4 => 64
  | 5 => 2
  | 6 => 1800
  | 7 => 2
  | 8 => 900
  | _ => 0
def zkd : Nat → Nat
  | 0 => 0
  | _ => 1
/-- where the arrays lie: as D says, if these places are apart -/
def zok (D : zD) (o : Nat) : Prop := (∀ i j, i < 9 → j < 9 → D.1.2 i = D.1.2 j → i = j) ∧ ∀ i, i < 9 → D.1.2 i ≠ o
noncomputable def zad (D : zD) (o j : Nat) : Nat := @ite Nat (zok D o) (Classical.propDecidable _) (D.1.2 j) (o + 1 + j)
theorem zad_ok {D : zD} {o : Nat} (h : zok D o) (j : Nat) : zad D o j = D.1.2 j := by
  unfold zad
  exact if_pos h
theorem zad_inj {D : zD} {o i j : Nat} (hi : i < 9) (hj : j < 9) (h : zad D o i = zad D o j) : i = j := by
  by_cases hk : zok D o
  · rw [zad_ok hk, zad_ok hk] at h
    exact hk.1 i j hi hj h
  · unfold zad at h
    rw [if_neg hk, if_neg hk] at h
    omega
theorem zad_ne {D : zD} {o j : Nat} (hj : j < 9) : zad D o j ≠ o := by
  by_cases hk : zok D o
  · rw [zad_ok hk]
    exact hk.2 j hj
  · unfold zad
    rw [if_neg hk]
    omega
noncomputable def zmo (D : zD) (o : Nat) (vf : Nat → Int32) : List Value := [.ref (zad D o 0), .ref (zad D o 1), .ref (zad D o 2), .ref (zad D o 3), .ref (zad D o 4), .ref (zad D o 5), .ref (zad D o 6), .ref (zad D o 7), .ref (zad D o 8), .int (vf 9), .int (vf 10), .int (vf 11), .int (vf 12), .int (vf 13), .int (vf 14), .int (vf 15), .int (vf 16)]
/-- a cell of the arrays, by its place -/
noncomputable def zmA (D : zD) (o : Nat) (hp : zH) (va : Nat → Nat → Int32) (q : Nat) : Nat → Option va_E
  | 0 => hp q
  | j + 1 => if q = zad D o j then some (.inl (D.2 (zkd j), zln j, .inl (va j))) else zmA D o hp va q j
noncomputable def zmod (D : zD) (o : Nat) (hp : zH) (va : Nat → Nat → Int32) (vf : Nat → Int32) : zH := fun q =>
  if q = o then some (.inr (ciM, zmo D o vf)) else zmA D o hp va q 9
theorem zmod_o (D : zD) (o : Nat) (hp : zH) (va : Nat → Nat → Int32) (vf : Nat → Int32) : zmod D o hp va vf o = some (.inr (ciM, zmo D o vf)) := if_pos rfl
theorem zmA_at (D : zD) (o : Nat) (hp : zH) (va : Nat → Nat → Int32) {j : Nat} : ∀ k, j < k → k ≤ 9 → zmA D o hp va (zad D o j) k = some (.inl (D.2 (zkd j), zln j, .inl (va j))) := by
  intro k
  induction k with
  | zero => intro h; omega
  | succ k ih =>
    intro h h9
    rw [zmA]
    by_cases e : j = k
    · subst e
      rw [if_pos rfl]
    · rw [if_neg (fun q => e (zad_inj (by omega) (by omega) q))]
      exact ih (by omega) (by omega)
theorem zmod_a (D : zD) (o : Nat) (hp : zH) (va : Nat → Nat → Int32) (vf : Nat → Int32) {j : Nat} (hj : j < 9) : zmod D o hp va vf (zad D o j) = some (.inl (D.2 (zkd j), zln j, .inl (va j))) := by
  unfold zmod
  rw [if_neg (zad_ne hj)]
  exact zmA_at D o hp va 9 hj (Nat.le_refl 9)
theorem zmod_setO (D : zD) (o : Nat) (hp : zH) (va : Nat → Nat → Int32) (vf vf' : Nat → Int32) : zset (zmod D o hp va vf) o (.inr (ciM, zmo D o vf')) = zmod D o hp va vf' := by
  funext q
  unfold zset zmod
  by_cases h : q = o
  · rw [if_pos h, if_pos h]
  · rw [if_neg h, if_neg h, if_neg h]
theorem zmA_up (D : zD) (o : Nat) (hp : zH) (va : Nat → Nat → Int32) (g : Nat → Int32) {q j : Nat} (hq : q ≠ zad D o j) : ∀ k, zmA D o hp (va_up va j g) q k = zmA D o hp va q k := by
  intro k
  induction k with
  | zero => rfl
  | succ k ih =>
    rw [zmA, zmA, ih]
    by_cases e : q = zad D o k
    · have hk : k ≠ j := fun e2 => hq (e2 ▸ e)
      rw [if_pos e, if_pos e]
      unfold va_up
      rw [if_neg hk]
    · rw [if_neg e, if_neg e]
theorem zmod_setA (D : zD) (o : Nat) (hp : zH) (va : Nat → Nat → Int32) (vf : Nat → Int32) {j : Nat} (hj : j < 9) (g : Nat → Int32) : zset (zmod D o hp va vf) (zad D o j) (.inl (D.2 (zkd j), zln j, .inl g)) = zmod D o hp (va_up va j g) vf := by
  funext q
  by_cases h : q = zad D o j
  · subst h
    rw [zset_self, zmod_a D o hp (va_up va j g) vf hj]
    unfold va_up
    rw [if_pos rfl]
  · rw [zset_ne h]
    unfold zmod
    by_cases h2 : q = o
    · rw [if_pos h2, if_pos h2]
    · rw [if_neg h2, if_neg h2, zmA_up D o hp va g h]
theorem zmo_set (D : zD) (o : Nat) (vf : Nat → Int32) (k : Nat) (x : Int32) (h : 9 ≤ k) (h2 : k < 17) : (zmo D o vf).set k (.int x) = zmo D o (upd vf k x) := by
  rcases (show k = 9 ∨ k = 10 ∨ k = 11 ∨ k = 12 ∨ k = 13 ∨ k = 14 ∨ k = 15 ∨ k = 16 by omega) with rfl | rfl | rfl | rfl | rfl | rfl | rfl | rfl <;> rfl
section ZMD
variable {l : Launch} {D : zD} {M : zM} {mc ms : Nat} {Q : Option Value → zH → Prop} {hp : zH} {cu su pc o : Nat} {lv : List (Option Value)} {rest : List Value} {va : Nat → Nat → Int32} {vf : Nat → Int32}
theorem zm_getA {index : Nat} {t : FieldType} (j : Nat) (hd : decode M.2.1 pc = .ok (.getfield index, 3)) (pc' : Nat) (he : pc + 3 = pc') (hF : zFld M.1.cls index ciM j t) (hv : (zmo D o vf)[j]? = some (.ref (zad D o j))) (kk : Z l D M mc ms Q (zmod D o hp va vf) cu su pc' lv (.ref (zad D o j) :: rest)) : Z l D M mc ms Q (zmod D o hp va vf) cu su pc lv (.ref o :: rest) :=
  z_get hd pc' he hF (zmod_o D o hp va vf) hv kk
theorem zm_getF {index : Nat} {t : FieldType} (k : Nat) (hd : decode M.2.1 pc = .ok (.getfield index, 3)) (pc' : Nat) (he : pc + 3 = pc') (hF : zFld M.1.cls index ciM k t) (hv : (zmo D o vf)[k]? = some (.int (vf k))) (kk : Z l D M mc ms Q (zmod D o hp va vf) cu su pc' lv (.int (vf k) :: rest)) : Z l D M mc ms Q (zmod D o hp va vf) cu su pc lv (.ref o :: rest) :=
  z_get hd pc' he hF (zmod_o D o hp va vf) hv kk
theorem zm_putF {index : Nat} {x : Int32} (k : Nat) (hd : decode M.2.1 pc = .ok (.putfield index, 3)) (pc' : Nat) (he : pc + 3 = pc') (hF : zFldP M.1.cls M.1.name index ciM k .int) (h : 9 ≤ k) (h2 : k < 17) (kk : Z l D M mc ms Q (zmod D o hp va (upd vf k x)) cu su pc' lv rest) : Z l D M mc ms Q (zmod D o hp va vf) cu su pc lv (.int x :: .ref o :: rest) :=
  z_put hd pc' he hF (zmod_o D o hp va vf) rfl rfl (show k < 17 from h2) (zmo_set D o vf k x h h2) (by rw [zmod_setO]; exact kk)
theorem zm_putZ {index : Nat} {x : Int32} (k : Nat) (hd : decode M.2.1 pc = .ok (.putfield index, 3)) (pc' : Nat) (he : pc + 3 = pc') (hF : zFldP M.1.cls M.1.name index ciM k .boolean) (h : 9 ≤ k) (h2 : k < 17) (hx : x = 0 ∨ x = 1) (kk : Z l D M mc ms Q (zmod D o hp va (upd vf k x)) cu su pc' lv rest) : Z l D M mc ms Q (zmod D o hp va vf) cu su pc lv (.int x :: .ref o :: rest) :=
  z_put hd pc' he hF (zmod_o D o hp va vf) (by rcases hx with rfl | rfl <;> decide) (by rcases hx with rfl | rfl <;> decide) (show k < 17 from h2) (zmo_set D o vf k x h h2) (by rw [zmod_setO]; exact kk)
theorem zln_lt (j : Nat) : zln j < 2 ^ 31 := by
  unfold zln
  split <;> decide
theorem zm_iald {j n : Nat} (hd : decode M.2.1 pc = .ok (.iaload, 1)) (pc' : Nat) (he : pc + 1 = pc') (hj : j < 9) (hk : zkd j = 1) (hn : n < zln j) (kk : Z l D M mc ms Q (zmod D o hp va vf) cu su pc' lv (.int (va j n) :: rest)) : Z l D M mc ms Q (zmod D o hp va vf) cu su pc lv (.int (nI n) :: .ref (zad D o j) :: rest) := by
  subst he
  have h9 := zln_lt j
  refine z_iald hd _ rfl (by rw [zmod_a D o hp va vf hj, hk]) (vp_in_nI hn h9) ?_
  rw [nI_clamp (by omega)]
  exact kk
theorem zm_bald {n : Nat} (hd : decode M.2.1 pc = .ok (.baload, 1)) (pc' : Nat) (he : pc + 1 = pc') (hn : n < 15840) (kk : Z l D M mc ms Q (zmod D o hp va vf) cu su pc' lv (.int (va 0 n) :: rest)) : Z l D M mc ms Q (zmod D o hp va vf) cu su pc lv (.int (nI n) :: .ref (zad D o 0) :: rest) := by
  subst he
  refine z_bald hd _ rfl (zmod_a D o hp va vf (by decide)) (vp_in_nI hn (by decide)) ?_
  rw [nI_clamp (by omega)]
  exact kk
theorem zm_iast {j n : Nat} {x : Int32} (hd : decode M.2.1 pc = .ok (.iastore, 1)) (pc' : Nat) (he : pc + 1 = pc') (hj : j < 9) (hk : zkd j = 1) (hn : n < zln j) (kk : Z l D M mc ms Q (zmod D o hp (va_up va j (upd (va j) n x)) vf) cu su pc' lv rest) : Z l D M mc ms Q (zmod D o hp va vf) cu su pc lv (.int x :: .int (nI n) :: .ref (zad D o j) :: rest) := by
  subst he
  have h9 := zln_lt j
  refine z_iast hd _ rfl (by rw [zmod_a D o hp va vf hj, hk]) (vp_in_nI hn h9) ?_
  have e := zmod_setA D o hp va vf hj (upd (va j) n x)
  rw [hk] at e
  rw [nI_clamp (by omega), e]
  exact kk
theorem zm_bast {n : Nat} {x : Int32} (hd : decode M.2.1 pc = .ok (.bastore, 1)) (pc' : Nat) (he : pc + 1 = pc') (hn : n < 15840) (kk : Z l D M mc ms Q (zmod D o hp (va_up va 0 (upd (va 0) n (vp_nar .byte x))) vf) cu su pc' lv rest) : Z l D M mc ms Q (zmod D o hp va vf) cu su pc lv (.int x :: .int (nI n) :: .ref (zad D o 0) :: rest) := by
  subst he
  refine z_bast hd _ rfl (zmod_a D o hp va vf (by decide)) (vp_in_nI hn (by decide)) ?_
  rw [nI_clamp (by omega)]
  have e : zset (zmod D o hp va vf) (zad D o 0) (.inl (D.2 0, zln 0, .inl (upd (va 0) n (vp_nar .byte x)))) = zmod D o hp (va_up va 0 (upd (va 0) n (vp_nar .byte x))) vf := zmod_setA D o hp va vf (j := 0) (by decide) (upd (va 0) n (vp_nar .byte x))
  rw [e]
  exact kk
theorem zm_cV1 {index n : Nat} {M' : zM} {as st : List Value} {v : Value} {va' : Nat → Nat → Int32} {vf' : Nat → Int32} (hd : decode M.2.1 pc = .ok (.invokevirtual index, 3)) (pc' : Nat) (he : pc + 3 = pc') (hM : zMV M' n ciM) (hl : zLk M.1.cls M'.1 index) (hR : zRm M M') (hr : ∀ Q' : Option Value → zH → Prop, Q' (some v) (zmod D o hp va' vf') → Runs l D M' (.ref o :: as) (zmod D o hp va vf) 0 0 Q') (hn : as.length = n) (hs : st = as.reverse ++ .ref o :: rest) (hrest : (rest.map fun v => v.category).sum ≤ 8)
    (kk : Z l D M 0 0 Q (zmod D o hp va' vf') 0 0 pc' lv (v :: rest)) : Z l D M 0 0 Q (zmod D o hp va vf) 0 0 pc lv st :=
  z_cV1 hd pc' he hM hl hR 0 0 rfl rfl (Nat.le_refl 0) (Nat.le_refl 0) (zmod_o D o hp va vf) hr hn hs hrest kk
theorem zm_cV0 {index n : Nat} {M' : zM} {as st : List Value} {va' : Nat → Nat → Int32} {vf' : Nat → Int32} (hd : decode M.2.1 pc = .ok (.invokevirtual index, 3)) (pc' : Nat) (he : pc + 3 = pc') (hM : zMV M' n ciM) (hl : zLk M.1.cls M'.1 index) (hR : zRm M M') (hr : ∀ Q' : Option Value → zH → Prop, Q' none (zmod D o hp va' vf') → Runs l D M' (.ref o :: as) (zmod D o hp va vf) 0 0 Q') (hn : as.length = n) (hs : st = as.reverse ++ .ref o :: rest) (hrest : (rest.map fun v => v.category).sum ≤ 8)
    (kk : Z l D M 0 0 Q (zmod D o hp va' vf') 0 0 pc' lv rest) : Z l D M 0 0 Q (zmod D o hp va vf) 0 0 pc lv st :=
  z_cV0 hd pc' he hM hl hR 0 0 rfl rfl (Nat.le_refl 0) (Nat.le_refl 0) (zmod_o D o hp va vf) hr hn hs hrest kk
/-- a call whose end is one of many: P says which -/
theorem zm_cV {index n : Nat} {M' : zM} {as st : List Value} (P : Value → (Nat → Nat → Int32) → (Nat → Int32) → Prop) (hd : decode M.2.1 pc = .ok (.invokevirtual index, 3)) (pc' : Nat) (he : pc + 3 = pc') (hM : zMV M' n ciM) (hl : zLk M.1.cls M'.1 index) (hR : zRm M M') (hr : ∀ Q' : Option Value → zH → Prop, (∀ v va' vf', P v va' vf' → Q' (some v) (zmod D o hp va' vf')) → Runs l D M' (.ref o :: as) (zmod D o hp va vf) 0 0 Q') (hn : as.length = n) (hs : st = as.reverse ++ .ref o :: rest) (hrest : (rest.map fun v => v.category).sum ≤ 8)
    (kk : ∀ v va' vf', P v va' vf' → Z l D M 0 0 Q (zmod D o hp va' vf') 0 0 pc' lv (v :: rest)) : Z l D M 0 0 Q (zmod D o hp va vf) 0 0 pc lv st := by
  refine z_cV (Q' := fun r h => ∃ v va' vf', P v va' vf' ∧ r = some v ∧ h = zmod D o hp va' vf') hd pc' he hM hl hR 0 0 rfl rfl (Nat.le_refl 0) (Nat.le_refl 0) (zmod_o D o hp va vf) (hr _ (fun v va' vf' h => ⟨v, va', vf', h, rfl, rfl⟩)) hn hs hrest ?_
  rintro r h ⟨v, va', vf', hP, rfl, rfl⟩
  exact kk v va' vf' hP
theorem zm_cVv {index n : Nat} {M' : zM} {as st : List Value} (P : (Nat → Nat → Int32) → (Nat → Int32) → Prop) (hd : decode M.2.1 pc = .ok (.invokevirtual index, 3)) (pc' : Nat) (he : pc + 3 = pc') (hM : zMV M' n ciM) (hl : zLk M.1.cls M'.1 index) (hR : zRm M M') (hr : ∀ Q' : Option Value → zH → Prop, (∀ va' vf', P va' vf' → Q' none (zmod D o hp va' vf')) → Runs l D M' (.ref o :: as) (zmod D o hp va vf) 0 0 Q') (hn : as.length = n) (hs : st = as.reverse ++ .ref o :: rest) (hrest : (rest.map fun v => v.category).sum ≤ 8)
    (kk : ∀ va' vf', P va' vf' → Z l D M 0 0 Q (zmod D o hp va' vf') 0 0 pc' lv rest) : Z l D M 0 0 Q (zmod D o hp va vf) 0 0 pc lv st := by
  refine z_cV (Q' := fun r h => ∃ va' vf', P va' vf' ∧ r = none ∧ h = zmod D o hp va' vf') hd pc' he hM hl hR 0 0 rfl rfl (Nat.le_refl 0) (Nat.le_refl 0) (zmod_o D o hp va vf) (hr _ (fun va' vf' h => ⟨va', vf', h, rfl, rfl⟩)) hn hs hrest ?_
  rintro r h ⟨va', vf', hP, rfl, rfl⟩
  exact kk va' vf' hP
theorem zm_cS1 {index n : Nat} {M' : zM} {as st : List Value} {v : Value} (hd : decode M.2.1 pc = .ok (.invokestatic index, 3)) (pc' : Nat) (he : pc + 3 = pc') (hM : zMS M' n) (hl : zLk M.1.cls M'.1 index) (hR : zRm M M') (hr : ∀ Q' : Option Value → zH → Prop, Q' (some v) hp → Runs l D M' as hp 0 0 Q') (hn : as.length = n) (hs : st = as.reverse ++ rest) (hrest : (rest.map fun v => v.category).sum ≤ 8)
    (kk : Z l D M 0 0 Q hp 0 0 pc' lv (v :: rest)) : Z l D M 0 0 Q hp 0 0 pc lv st :=
  z_cS1 hd pc' he hM hl hR 0 0 rfl rfl (Nat.le_refl 0) (Nat.le_refl 0) hr hn hs hrest kk
end ZMD
