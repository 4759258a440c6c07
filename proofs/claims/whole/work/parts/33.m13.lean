/-! The reference: what is loose, told, wanted. Own work. -/
def clu (As : List (List Nat)) (nm : Int32) : Bool := As.any fun a => decide (sortM a = 3) && hasL 77 nm (lns a)
def needC : Option CV → List Nat
  | none => []
  | some c => if c.1 = 70 ∨ c.1 = 77 ∨ c.1 = 80 then c.2.2.2.1.toList ++ (if c.1 = 80 then c.2.2.2.2.1.toList else []) else []
def needA (bs : List Nat) : List Nat := if sortM bs = 1 ∨ sortM bs = 3 then (lns bs).flatMap needC else []
theorem cardG_n {g : Nat → Nat} {n : Nat} {c : CV} (h : cardG g n = some c) (h2 : c.1 = 70 ∨ c.1 = 77 ∨ c.1 = 80) : 8 ≤ n := by
  simp only [cardG] at h
  split at h
  next h3 =>
    have e := cardB_1 h
    rw [e] at h2
    simp only [cardB] at h
    split at h
    next => omega
    next =>
      split at h
      next =>
        simp only [card1] at h
        split at h
        · omega
        · cases h
      next =>
        split at h
        next =>
          simp only [cardF] at h
          split at h
          · omega
          · cases h
        next =>
          split at h
          next =>
            simp only [cardP] at h
            split at h
            · omega
            · split at h
              · omega
              · cases h
          next => omega
  next => cases h
theorem rdl_9 {bs : List Nat} {k e : Nat} {c : CV} (hk : k ≤ bs.length) (h : rdl bs k = some (e, some c)) (h2 : c.1 = 70 ∨ c.1 = 77 ∨ c.1 = 80) : k + 9 ≤ e := by
  simp only [rdl] at h
  split at h
  next h1 =>
    injection h with h
    injection h with h3 h4
    have := cardG_n h4 h2
    have := eol_le hk
    omega
  next => cases h
/-- what a well-formed text's cards are like -/
theorem wf_facts (bs : List Nat) : ∀ (g k : Nat) (cs cs' : List CV), bs.length ≤ k + g → k ≤ bs.length → wfF bs g k cs = some cs' →
    9 * (cnt 70 cs + cnt 77 cs + cnt 80 cs) ≤ k → cnt 80 cs ≤ 1 → (lastL cs < 80 → cnt 80 cs = 0) →
    9 * (cnt 70 cs' + cnt 77 cs' + cnt 80 cs') ≤ bs.length ∧ cnt 80 cs' ≤ 1 ∧ ∃ ds, cs' = cs ++ ds ∧ lnsF bs g k = ds.map some := by
  intro g
  induction g with
  | zero =>
    intro k cs cs' hg hk hw h1 h2 h3
    simp only [wfF] at hw
    cases hw
    exact ⟨by omega, h2, [], by simp, rfl⟩
  | succ g ih =>
    intro k cs cs' hg hk hw h1 h2 h3
    rw [wfF] at hw
    split at hw
    next hlt =>
      split at hw
      next e c hrd =>
        split at hw
        next hok =>
          obtain ⟨e1, e2, e3⟩ := rdl_some hk hrd
          obtain ⟨ho, hz⟩ := Bool.and_eq_true_iff.mp hok
          have c70 := cnt_snoc 70 cs c
          have c77 := cnt_snoc 77 cs c
          have c80 := cnt_snoc 80 cs c
          have hlast : lastL (cs ++ [c]) = c.1 := by simp [lastL]
          have hle : lastL cs ≤ c.1 ∧ (c.1 = 80 → lastL cs < 80) := by
            unfold okC at ho
            unfold lastL
            cases hl : cs.getLast? with
            | none => simp
            | some a =>
              rw [hl] at ho
              simp only [Bool.or_eq_true, decide_eq_true_eq, Bool.and_eq_true, grw] at ho
              simp only
              omega
          have h9 : c.1 = 70 ∨ c.1 = 77 ∨ c.1 = 80 → k + 9 ≤ e := rdl_9 hk hrd
          obtain ⟨r1, r2, ds, r3, r4⟩ := ih e (cs ++ [c]) cs' (by omega) e2 hw
            (by rw [c70, c77, c80]; (repeat' split) <;> omega)
            (by rw [c80]; split <;> omega)
            (by rw [hlast, c80]; intro h; rw [if_neg (by omega)]; have := h3 (by omega); omega)
          refine ⟨r1, r2, c :: ds, by rw [r3]; simp, ?_⟩
          rw [lnsF_some hlt hrd, r4]
          rfl
        next => cases hw
      next => cases hw
    next hge =>
      cases hw
      exact ⟨by omega, h2, [], by simp, lnsF_end (by omega)⟩
theorem wf_all {bs : List Nat} {cs : List CV} (h : wf bs = some cs) : lns bs = cs.map some ∧ 9 * (cnt 70 cs + cnt 77 cs + cnt 80 cs) ≤ bs.length ∧ cnt 80 cs ≤ 1 := by
  obtain ⟨h1, h2, ds, h3, h4⟩ := wf_facts bs bs.length 0 [] cs (by omega) (Nat.zero_le _) h (by simp [cnt]) (by simp [cnt]) (by simp [cnt])
  simp at h3
  subst h3
  exact ⟨h4, h1, h2⟩
theorem sort_wf {bs : List Nat} (h : sortM bs ≠ 0) : ∃ cs, wf bs = some cs ∧ sortM bs = sortC cs := by
  unfold sortM at h ⊢
  cases hw : wf bs with
  | none => rw [hw] at h; exact absurd rfl h
  | some cs => exact ⟨cs, rfl, rfl⟩
theorem need_len : ∀ cs : List CV, ((cs.map some).flatMap needC).length ≤ cnt 70 cs + cnt 77 cs + 2 * cnt 80 cs := by
  intro cs
  induction cs with
  | nil => simp
  | cons c t ih =>
    have hc : ∀ n, cnt n (c :: t) = (if c.1 = n then 1 else 0) + cnt n t := by
      intro n
      by_cases h : c.1 = n <;> simp [cnt, List.filter_cons, h] <;> omega
    rw [hc, hc, hc, List.map_cons, List.flatMap_cons, List.length_append]
    have h1 : c.2.2.2.1.toList.length ≤ 1 := by cases c.2.2.2.1 <;> simp
    have h2 : c.2.2.2.2.1.toList.length ≤ 1 := by cases c.2.2.2.2.1 <;> simp
    have h3 : (needC (some c)).length ≤ (if c.1 = 70 then 1 else 0) + (if c.1 = 77 then 1 else 0) + 2 * (if c.1 = 80 then 1 else 0) := by
      simp only [needC]
      by_cases h80 : c.1 = 80
      · rw [if_pos (Or.inr (Or.inr h80)), if_pos h80, List.length_append]
        simp [h80]
        omega
      · rw [if_neg h80, List.append_nil]
        split
        next h =>
          rcases h with h | h | h
          · simp [h] <;> omega
          · simp [h] <;> omega
          · exact absurd h h80
        next => simp
    omega
theorem needA_len {bs : List Nat} (h : bs.length ≤ 240) : (needA bs).length ≤ 27 := by
  unfold needA
  split
  next h1 =>
    obtain ⟨cs, hw, -⟩ := sort_wf (bs := bs) (by omega)
    obtain ⟨e, h2, h3⟩ := wf_all hw
    rw [e]
    have := need_len cs
    omega
  next => simp
/-- only the list has changed -/
def k8 (va va' : Nat → Nat → Int32) : Prop := ∀ j, j ≠ 8 → va' j = va j
theorem k8.slot {va va' : Nat → Nat → Int32} (h : k8 va va') {s : Nat} {bs : List Nat} (hr : slotP va s bs) : slotP va' s bs := by
  unfold slotP zrow
  rw [h 0 (by decide), h 1 (by decide)]
  exact hr
theorem k8.rep {va va' : Nat → Nat → Int32} (h : k8 va va') {r : Nat} {As : List (List Nat)} (hr : repP va r As) : repP va' r As :=
  ⟨hr.1, by rw [h 3 (by decide)]; exact hr.2.1, fun i hi => ⟨h.slot (hr.2.2 i hi).1, by rw [h 2 (by decide)]; exact (hr.2.2 i hi).2⟩⟩
theorem k8.trans {a b c : Nat → Nat → Int32} (h : k8 a b) (g : k8 b c) : k8 a c := fun j hj => (g j hj).trans (h j hj)
def toldP (va : Nat → Nat → Int32) (r : Nat) (T : List Nat) : Prop := va 5 r = nI T.length ∧ T.length ≤ 32 ∧ ∀ i, i < T.length → va 4 (32 * r + i) = nI (T.getD i 0) ∧ T.getD i 0 < 16777216
theorem k8.told {va va' : Nat → Nat → Int32} (h : k8 va va') {r : Nat} {T : List Nat} (hr : toldP va r T) : toldP va' r T := by
  unfold toldP
  rw [h 4 (by decide), h 5 (by decide)]
  exact hr
section M13
variable {l : Launch} {D : zD} {hp : zH} {o : Nat} {va : Nat → Nat → Int32} {vf : Nat → Int32} {Q : Option Value → zH → Prop}
theorem c_m_clustered (r : Nat) (nm : Int32) {As : List (List Nat)} (hr2 : r < 2) (hR : repP va r As)
    (hQ : ∀ f : Nat → Int32, f 9 = vf 9 → Q (some (.int (zb (clu As nm)))) (zmod D o hp va f)) : Runs l D M_m_clustered [.ref o, .int (nI r), .int nm] (zmod D o hp va vf) 0 0 Q := by
  refine Runs.of rfl rfl (Nat.le_of_ble_eq_true rfl) ?_
  obtain ⟨h32, hmany, hslot⟩ := hR
  refine z_iconst (v := nI 0) d_m_clustered_0 1 rfl rfl ?_
  refine z_ist3 d_m_clustered_1 2 rfl rfl ?_
  refine z_bipush (v := nI 32) d_m_clustered_2 4 rfl rfl ?_
  refine z_iload_n d_m_clustered_4 5 rfl rfl rfl ?_
  first | refine z_imulN d_m_clustered_5 6 rfl ?_ | refine z_imul d_m_clustered_5 6 rfl ?_
  refine z_ist4 d_m_clustered_6 8 rfl rfl ?_
  have loop : ∀ (c j : Nat) (b : Bool) (f : Nat → Int32), j + c = As.length → f 9 = vf 9 → clu As nm = (b || clu (As.drop j) nm) → Z l D M_m_clustered 0 0 Q (zmod D o hp va f) 0 0 8 [some (.ref o), some (.int (nI r)), some (.int nm), some (.int (zb b)), some (.int (nI (32 * r + j)))] [] := by
    intro c
    induction c with
    | zero =>
      intro j b f hj hf he
      refine z_iload d_m_clustered_8 10 rfl rfl ?_
      refine z_bipush (v := nI 32) d_m_clustered_10 12 rfl rfl ?_
      refine z_iload_n d_m_clustered_12 13 rfl rfl rfl ?_
      first | refine z_imulN d_m_clustered_13 14 rfl ?_ | refine z_imul d_m_clustered_13 14 rfl ?_
      refine z_aload_n d_m_clustered_14 15 rfl rfl rfl ?_
      refine zm_getA 3 d_m_clustered_15 18 rfl f_m_20 rfl ?_
      refine z_iload_n d_m_clustered_18 19 rfl rfl rfl ?_
      refine zm_iald d_m_clustered_19 20 rfl (by decide) rfl (by simp only [zln]; omega) ?_
      rw [hmany]
      first | refine z_iaddN d_m_clustered_20 21 rfl ?_ | refine z_iadd d_m_clustered_20 21 rfl ?_
      refine z_icmp_geN (tgt := 62) d_m_clustered_21 24 rfl rfl (by omega) (by omega) (fun h21 => ?_) (fun h21 => ?_)
      · rw [List.drop_eq_nil_of_le (by omega), show clu [] nm = false from rfl, Bool.or_false] at he
        refine z_iload_n d_m_clustered_62 63 rfl rfl rfl ?_
        exact z_zretB d_m_clustered_63 rfl (Nat.le_refl 0) (Nat.le_refl 0) (by rw [← he]; exact hQ f hf)
      · omega
    | succ c ih =>
      intro j b f hj hf he
      have h3 := sortM_le (As.getD j [])
      refine z_iload d_m_clustered_8 10 rfl rfl ?_
      refine z_bipush (v := nI 32) d_m_clustered_10 12 rfl rfl ?_
      refine z_iload_n d_m_clustered_12 13 rfl rfl rfl ?_
      first | refine z_imulN d_m_clustered_13 14 rfl ?_ | refine z_imul d_m_clustered_13 14 rfl ?_
      refine z_aload_n d_m_clustered_14 15 rfl rfl rfl ?_
      refine zm_getA 3 d_m_clustered_15 18 rfl f_m_20 rfl ?_
      refine z_iload_n d_m_clustered_18 19 rfl rfl rfl ?_
      refine zm_iald d_m_clustered_19 20 rfl (by decide) rfl (by simp only [zln]; omega) ?_
      rw [hmany]
      first | refine z_iaddN d_m_clustered_20 21 rfl ?_ | refine z_iadd d_m_clustered_20 21 rfl ?_
      refine z_icmp_geN (tgt := 62) d_m_clustered_21 24 rfl rfl (by omega) (by omega) (fun h21 => ?_) (fun h21 => ?_)
      · omega
      · rw [drop_cons (by omega), show ∀ a t, clu (a :: t) nm = ((decide (sortM a = 3) && hasL 77 nm (lns a)) || clu t nm) from fun _ _ => rfl] at he
        refine z_iload_n d_m_clustered_24 25 rfl rfl rfl ?_
        refine z_if_neB (tgt := 62) d_m_clustered_25 28 rfl rfl (fun h25 => ?_) (fun h25 => ?_)
        · subst h25
          rw [Bool.true_or] at he
          refine z_iload_n d_m_clustered_62 63 rfl rfl rfl ?_
          exact z_zretB d_m_clustered_63 rfl (Nat.le_refl 0) (Nat.le_refl 0) (by rw [← he]; exact hQ f hf)
        · subst h25
          rw [Bool.false_or] at he
          obtain ⟨hsl, -⟩ := hslot j (by omega)
          have fin : ∀ (b' : Bool) (g : Nat → Int32), g 9 = vf 9 → b' = (decide (sortM (As.getD j []) = 3) && hasL 77 nm (lns (As.getD j []))) → Z l D M_m_clustered 0 0 Q (zmod D o hp va g) 0 0 55 [some (.ref o), some (.int (nI r)), some (.int nm), some (.int (zb false)), some (.int (nI (32 * r + j)))] [.int (zb b')] := by
            intro b' g hg hb'
            refine z_ist3 d_m_clustered_55 56 rfl rfl ?_
            first | refine z_incN4 d_m_clustered_56 59 rfl rfl ?_ | refine z_inc4 d_m_clustered_56 59 rfl rfl rfl ?_
            refine z_goto (tgt := 8) d_m_clustered_59 rfl ?_
            exact ih (j + 1) b' g (by omega) hg (by rw [he, hb'])
          refine z_aload_n d_m_clustered_28 29 rfl rfl rfl ?_
          refine z_iload d_m_clustered_29 31 rfl rfl ?_
          refine zm_cV (fun v a f' => v = .int (nI (sortM (As.getD j []))) ∧ va = a ∧ f' 9 = f 9) d_m_clustered_31 34 rfl mv_m_sort kl_m_101 (by decide) (fun Q' h => c_m_sort _ hsl (by omega) (fun f h1 => h _ _ _ ⟨rfl, rfl, h1⟩)) rfl rfl (Nat.le_of_ble_eq_true rfl) ?_; rintro _ _ f1 ⟨rfl, rfl, i1⟩
          refine z_iconst (v := nI 3) d_m_clustered_34 35 rfl rfl ?_
          refine z_icmp_neN (tgt := 54) d_m_clustered_35 38 rfl rfl (by omega) (by omega) (fun h35 => ?_) (fun h35 => ?_)
          · refine z_iconst (v := nI 0) d_m_clustered_54 55 rfl rfl ?_
            exact fin false f1 (i1.trans hf) (by rw [decide_eq_false h35, Bool.false_and])
          · refine z_aload_n d_m_clustered_38 39 rfl rfl rfl ?_
            refine z_iload d_m_clustered_39 41 rfl rfl ?_
            refine z_bipush (v := nI 77) d_m_clustered_41 43 rfl rfl ?_
            refine z_iload_n d_m_clustered_43 44 rfl rfl rfl ?_
            refine zm_cV (fun v a f' => v = .int (zb (hasL 77 nm (lns (As.getD j [])))) ∧ va = a ∧ f' 9 = f1 9) d_m_clustered_44 47 rfl mv_m_has kl_m_108 (by decide) (fun Q' h => c_m_has _ 77 _ hsl (by omega) (by decide) (fun f h1 => h _ _ _ ⟨rfl, rfl, h1⟩)) rfl rfl (Nat.le_of_ble_eq_true rfl) ?_; rintro _ _ f2 ⟨rfl, rfl, i2⟩
            refine z_if_eqB (tgt := 54) d_m_clustered_47 50 rfl rfl (fun h47 => ?_) (fun h47 => ?_)
            · refine z_iconst (v := nI 0) d_m_clustered_54 55 rfl rfl ?_
              exact fin false f2 (i2.trans (i1.trans hf)) (by rw [h47, Bool.and_false])
            · refine z_iconst (v := nI 1) d_m_clustered_50 51 rfl rfl ?_
              refine z_goto (tgt := 55) d_m_clustered_51 rfl ?_
              exact fin true f2 (i2.trans (i1.trans hf)) (by rw [h47, h35]; rfl)
  exact loop As.length 0 false vf (by omega) rfl (by rw [Bool.false_or]; rfl)
theorem c_m_listLoose (r : Nat) {As : List (List Nat)} (hr2 : r < 2) (hR : repP va r As)
    (hQ : ∀ (va' : Nat → Nat → Int32) (f : Nat → Int32) (L : List Nat), k8 va va' → (∀ x, x ∈ L ↔ ∃ a, a ∈ As ∧ dg 7 a = x ∧ clu As (nI x) = false) → L.length ≤ 32 → listP va' f L → Q none (zmod D o hp va' f)) : Runs l D M_m_listLoose [.ref o, .int (nI r)] (zmod D o hp va vf) 0 0 Q := by
  refine Runs.of rfl rfl (Nat.le_of_ble_eq_true rfl) ?_
  have h32 := hR.1
  refine z_aload_n d_m_listLoose_0 1 rfl rfl rfl ?_
  refine z_iconst (v := nI 0) d_m_listLoose_1 2 rfl rfl ?_
  refine zm_putF 9 d_m_listLoose_2 5 rfl (p_m_136 _) (by decide) (by decide) ?_
  refine z_bipush (v := nI 32) d_m_listLoose_5 7 rfl rfl ?_
  refine z_iload_n d_m_listLoose_7 8 rfl rfl rfl ?_
  first | refine z_imulN d_m_listLoose_8 9 rfl ?_ | refine z_imul d_m_listLoose_8 9 rfl ?_
  refine z_ist2 d_m_listLoose_9 10 rfl rfl ?_
  have loop : ∀ (c j : Nat) (x : Nat → Nat → Int32) (f : Nat → Int32) (L : List Nat), j + c = As.length → k8 va x → (∀ y, y ∈ L ↔ ∃ a, a ∈ As.take j ∧ dg 7 a = y ∧ clu As (nI y) = false) → listP x f L → Z l D M_m_listLoose 0 0 Q (zmod D o hp x f) 0 0 10 [some (.ref o), some (.int (nI r)), some (.int (nI (32 * r + j)))] [] := by
    intro c
    induction c with
    | zero =>
      intro j x f L hj hx hm hL
      have hRx := hx.rep hR
      refine z_iload_n d_m_listLoose_10 11 rfl rfl rfl ?_
      refine z_bipush (v := nI 32) d_m_listLoose_11 13 rfl rfl ?_
      refine z_iload_n d_m_listLoose_13 14 rfl rfl rfl ?_
      first | refine z_imulN d_m_listLoose_14 15 rfl ?_ | refine z_imul d_m_listLoose_14 15 rfl ?_
      refine z_aload_n d_m_listLoose_15 16 rfl rfl rfl ?_
      refine zm_getA 3 d_m_listLoose_16 19 rfl f_m_20 rfl ?_
      refine z_iload_n d_m_listLoose_19 20 rfl rfl rfl ?_
      refine zm_iald d_m_listLoose_20 21 rfl (by decide) rfl (by simp only [zln]; omega) ?_
      rw [hRx.2.1]
      first | refine z_iaddN d_m_listLoose_21 22 rfl ?_ | refine z_iadd d_m_listLoose_21 22 rfl ?_
      refine z_icmp_geN (tgt := 55) d_m_listLoose_22 25 rfl rfl (by omega) (by omega) (fun h22 => ?_) (fun h22 => ?_)
      · rw [List.take_of_length_le (by omega)] at hm
        have hl : L.length ≤ (As.map (dg 7)).length := SS_len hL.2.2.1 (fun y hy => by obtain ⟨a, h1, h2, -⟩ := (hm y).1 hy; exact List.mem_map.mpr ⟨a, h1, h2⟩)
        rw [List.length_map] at hl
        exact z_vret d_m_listLoose_55 rfl (Nat.le_refl 0) (Nat.le_refl 0) (hQ x f L hx hm (by omega) hL)
      · omega
    | succ c ih =>
      intro j x f L hj hx hm hL
      have hRx := hx.rep hR
      have hd := dg7 (As.getD j [])
      have hl : L.length ≤ ((As.take j).map (dg 7)).length := SS_len hL.2.2.1 (fun y hy => by obtain ⟨a, h1, h2, -⟩ := (hm y).1 hy; exact List.mem_map.mpr ⟨a, h1, h2⟩)
      rw [List.length_map, List.length_take] at hl
      have htk : As.take (j + 1) = As.take j ++ [As.getD j []] := by
        rw [List.take_add_one, show As[j]? = some (As.getD j []) by rw [List.getD_eq_getElem?_getD, List.getElem?_eq_getElem (by omega)]; rfl]
        rfl
      refine z_iload_n d_m_listLoose_10 11 rfl rfl rfl ?_
      refine z_bipush (v := nI 32) d_m_listLoose_11 13 rfl rfl ?_
      refine z_iload_n d_m_listLoose_13 14 rfl rfl rfl ?_
      first | refine z_imulN d_m_listLoose_14 15 rfl ?_ | refine z_imul d_m_listLoose_14 15 rfl ?_
      refine z_aload_n d_m_listLoose_15 16 rfl rfl rfl ?_
      refine zm_getA 3 d_m_listLoose_16 19 rfl f_m_20 rfl ?_
      refine z_iload_n d_m_listLoose_19 20 rfl rfl rfl ?_
      refine zm_iald d_m_listLoose_20 21 rfl (by decide) rfl (by simp only [zln]; omega) ?_
      rw [hRx.2.1]
      first | refine z_iaddN d_m_listLoose_21 22 rfl ?_ | refine z_iadd d_m_listLoose_21 22 rfl ?_
      refine z_icmp_geN (tgt := 55) d_m_listLoose_22 25 rfl rfl (by omega) (by omega) (fun h22 => ?_) (fun h22 => ?_)
      · omega
      · refine z_aload_n d_m_listLoose_25 26 rfl rfl rfl ?_
        refine z_iload_n d_m_listLoose_26 27 rfl rfl rfl ?_
        refine z_aload_n d_m_listLoose_27 28 rfl rfl rfl ?_
        refine zm_getA 2 d_m_listLoose_28 31 rfl f_m_17 rfl ?_
        refine z_iload_n d_m_listLoose_31 32 rfl rfl rfl ?_
        refine zm_iald d_m_listLoose_32 33 rfl (by decide) rfl (by simp only [zln]; omega) ?_
        rw [(hRx.2.2 j (by omega)).2]
        refine zm_cV (fun v a f' => v = .int (zb (clu As (nI (dg 7 (As.getD j []))))) ∧ x = a ∧ f' 9 = f 9) d_m_listLoose_33 36 rfl mv_m_clustered kl_m_139 (by decide) (fun Q' h => c_m_clustered r _ hr2 hRx (fun f h1 => h _ _ _ ⟨rfl, rfl, h1⟩)) rfl rfl (Nat.le_of_ble_eq_true rfl) ?_; rintro _ _ f1 ⟨rfl, rfl, i1⟩
        have hL1 : listP x f1 L := ⟨i1.trans hL.1, hL.2⟩
        refine z_if_neB (tgt := 49) d_m_listLoose_36 39 rfl rfl (fun h36 => ?_) (fun h36 => ?_)
        · first | refine z_incN2 d_m_listLoose_49 52 rfl rfl ?_ | refine z_inc2 d_m_listLoose_49 52 rfl rfl rfl ?_
          refine z_goto (tgt := 10) d_m_listLoose_52 rfl ?_
          refine ih (j + 1) x f1 L (by omega) hx (fun y => ?_) hL1
          rw [hm y, htk]
          constructor
          · rintro ⟨a, h1, h2⟩
            exact ⟨a, List.mem_append_left _ h1, h2⟩
          · rintro ⟨a, h1, h2, h3⟩
            rcases List.mem_append.mp h1 with h1 | h1
            · exact ⟨a, h1, h2, h3⟩
            · rw [List.mem_singleton.mp h1] at h2
              rw [← h2, h36] at h3
              cases h3
        · refine z_aload_n d_m_listLoose_39 40 rfl rfl rfl ?_
          refine z_aload_n d_m_listLoose_40 41 rfl rfl rfl ?_
          refine zm_getA 2 d_m_listLoose_41 44 rfl f_m_17 rfl ?_
          refine z_iload_n d_m_listLoose_44 45 rfl rfl rfl ?_
          refine zm_iald d_m_listLoose_45 46 rfl (by decide) rfl (by simp only [zln]; omega) ?_
          rw [(hRx.2.2 j (by omega)).2]
          refine zm_cVv (fun a f' => ∃ L', k8 x a ∧ (∀ y, y ∈ L' ↔ y = dg 7 (As.getD j []) ∨ y ∈ L) ∧ listP a f' L') d_m_listLoose_46 49 rfl mv_m_enlist kl_m_142 (by decide) (fun Q' h => c_m_enlist _ (by omega) hL1 (by omega) (fun a f L' h1 h2 h3 h4 => h _ _ ⟨L', h1, h3, h4⟩)) rfl rfl (Nat.le_of_ble_eq_true rfl) ?_; rintro x2 f2 ⟨L2, i2, i3, i4⟩
          first | refine z_incN2 d_m_listLoose_49 52 rfl rfl ?_ | refine z_inc2 d_m_listLoose_49 52 rfl rfl rfl ?_
          refine z_goto (tgt := 10) d_m_listLoose_52 rfl ?_
          refine ih (j + 1) x2 f2 L2 (by omega) (hx.trans i2) (fun y => ?_) i4
          rw [i3 y, hm y, htk]
          constructor
          · rintro (h | ⟨a, h1, h2⟩)
            · exact ⟨_, List.mem_append_right _ (List.mem_singleton.mpr rfl), h.symm, by rw [h]; exact h36⟩
            · exact ⟨a, List.mem_append_left _ h1, h2⟩
          · rintro ⟨a, h1, h2, h3⟩
            rcases List.mem_append.mp h1 with h1 | h1
            · exact Or.inr ⟨a, h1, h2, h3⟩
            · rw [List.mem_singleton.mp h1] at h2
              exact Or.inl h2.symm
  exact loop As.length 0 va _ [] (by omega) (fun _ _ => rfl) (fun y => by simp) ⟨by rw [pk_us]; rfl, by simp, List.Pairwise.nil, fun i hi => by simp at hi⟩
theorem c_m_lack (r : Nat) (x : Option Nat) {As : List (List Nat)} {L : List Nat} (hr2 : r < 2) (hR : repP va r As) (hx : ∀ v, x = some v → v < 16777216) (hL : listP va vf L) (hlen : L.length < 900)
    (hQ : ∀ (va' : Nat → Nat → Int32) (f : Nat → Int32) (L' : List Nat), k8 va va' → (∀ j, j ≠ 9 → f j = vf j) → (∀ y, y ∈ L' ↔ (x = some y ∧ lk As (nI y) = none) ∨ y ∈ L) → listP va' f L' → Q none (zmod D o hp va' f)) : Runs l D M_m_lack [.ref o, .int (nI r), .int (oI x)] (zmod D o hp va vf) 0 0 Q := by
  refine Runs.of rfl rfl (Nat.le_of_ble_eq_true rfl) ?_
  have h32 := hR.1
  refine z_iload_n d_m_lack_0 1 rfl rfl rfl ?_
  refine z_if_ltO (tgt := 18) d_m_lack_1 4 rfl rfl (fun v h => by have := hx v h; omega) (fun h1 => ?_) (fun w1 h1 => ?_)
  · exact z_vret d_m_lack_18 rfl (Nat.le_refl 0) (Nat.le_refl 0) (hQ va vf L (fun _ _ => rfl) (fun _ _ => rfl) (fun y => by rw [h1]; simp) hL)
  · have hv := hx _ h1
    subst h1
    obtain ⟨j1, j2⟩ := fnd_lk (nI w1) As (32 * r)
    refine z_aload_n d_m_lack_4 5 rfl rfl rfl ?_
    refine z_iload_n d_m_lack_5 6 rfl rfl rfl ?_
    refine z_iload_n d_m_lack_6 7 rfl rfl rfl ?_
    refine zm_cV1 d_m_lack_7 10 rfl mv_m_find kl_m_98 (by decide) (fun Q' h => c_m_find r _ hr2 hR h) rfl rfl (Nat.le_of_ble_eq_true rfl) ?_
    refine z_if_geO (tgt := 18) d_m_lack_10 13 rfl rfl (fun v h => by obtain ⟨h1, h2, -⟩ := j2 v h; omega) (fun w10 h10 => ?_) (fun h10 => ?_)
    · obtain ⟨-, -, b3, -⟩ := j2 _ h10
      exact z_vret d_m_lack_18 rfl (Nat.le_refl 0) (Nat.le_refl 0) (hQ va vf L (fun _ _ => rfl) (fun _ _ => rfl) (fun y => ⟨Or.inr, fun h => h.elim (fun e => by obtain ⟨e1, e2⟩ := e; cases e1; rw [b3] at e2; cases e2) id⟩) hL)
    · rw [show oI (some w1) = nI w1 from rfl]
      refine z_aload_n d_m_lack_13 14 rfl rfl rfl ?_
      refine z_iload_n d_m_lack_14 15 rfl rfl rfl ?_
      refine zm_cVv (fun a f' => ∃ L', k8 va a ∧ (∀ j, j ≠ 9 → f' j = vf j) ∧ (∀ y, y ∈ L' ↔ y = w1 ∨ y ∈ L) ∧ listP a f' L') d_m_lack_15 18 rfl mv_m_enlist kl_m_142 (by decide) (fun Q' h => c_m_enlist _ hv hL hlen (fun a f L' h1 h2 h3 h4 => h _ _ ⟨L', h1, h2, h3, h4⟩)) rfl rfl (Nat.le_of_ble_eq_true rfl) ?_; rintro x2 f2 ⟨L2, i2, i3, i4, i5⟩
      exact z_vret d_m_lack_18 rfl (Nat.le_refl 0) (Nat.le_refl 0) (hQ x2 f2 L2 i2 i3 (fun y => by rw [i4 y]; constructor; (rintro (h | h); (exact Or.inl ⟨by rw [h], by rw [h]; exact j1 h10⟩); (exact Or.inr h)); (rintro (⟨h, -⟩ | h); (cases h; exact Or.inl rfl); (exact Or.inr h))) i5)
theorem c_m_tell (r n : Nat) {As : List (List Nat)} {T : List Nat} (hr2 : r < 2) (hn : n < 16777216) (hR : repP va r As) (hT : toldP va r T) (hroom : lk As (nI n) = none → n ∉ T → T.length < 32)
    (hQ0 : (lk As (nI n) ≠ none ∨ n ∈ T) → Q none (zmod D o hp va vf))
    (hQ : lk As (nI n) = none → n ∉ T → ∀ va' : Nat → Nat → Int32, (∀ j, j ≠ 4 → j ≠ 5 → va' j = va j) → (∀ q, q ≠ r → va' 5 q = va 5 q) → (∀ i, i ≠ 32 * r + T.length → va' 4 i = va 4 i) → toldP va' r (T ++ [n]) → Q none (zmod D o hp va' vf)) : Runs l D M_m_tell [.ref o, .int (nI r), .int (nI n)] (zmod D o hp va vf) 0 0 Q := by
  refine Runs.of rfl rfl (Nat.le_of_ble_eq_true rfl) ?_
  have h32 := hR.1
  obtain ⟨t1, t2, t3⟩ := hT
  obtain ⟨j1, j2⟩ := fnd_lk (nI n) As (32 * r)
  refine z_aload_n d_m_tell_0 1 rfl rfl rfl ?_
  refine z_iload_n d_m_tell_1 2 rfl rfl rfl ?_
  refine z_iload_n d_m_tell_2 3 rfl rfl rfl ?_
  refine zm_cV1 d_m_tell_3 6 rfl mv_m_find kl_m_98 (by decide) (fun Q' h => c_m_find r _ hr2 hR h) rfl rfl (Nat.le_of_ble_eq_true rfl) ?_
  refine z_if_ltO (tgt := 10) d_m_tell_6 9 rfl rfl (fun v h => by obtain ⟨h1, h2, -⟩ := j2 v h; omega) (fun h6 => ?_) (fun w6 h6 => ?_)
  · refine z_iconst (v := nI 0) d_m_tell_10 11 rfl rfl ?_
    refine z_ist3 d_m_tell_11 12 rfl rfl ?_
    have loop : ∀ (c j : Nat), j + c = T.length → (∀ i, i < j → T.getD i 0 ≠ n) → Z l D M_m_tell 0 0 Q (zmod D o hp va vf) 0 0 12 [some (.ref o), some (.int (nI r)), some (.int (nI n)), some (.int (nI j))] [] := by
      intro c
      induction c with
      | zero =>
        intro j hj hno
        have hnT : n ∉ T := fun h => by obtain ⟨i, hi, e⟩ := mem_getD h; exact hno i (by omega) e
        have hlt := hroom (j1 h6) hnT
        refine z_iload_n d_m_tell_12 13 rfl rfl rfl ?_
        refine z_aload_n d_m_tell_13 14 rfl rfl rfl ?_
        refine zm_getA 5 d_m_tell_14 17 rfl f_m_26 rfl ?_
        refine z_iload_n d_m_tell_17 18 rfl rfl rfl ?_
        refine zm_iald d_m_tell_18 19 rfl (by decide) rfl (by simp only [zln]; omega) ?_
        rw [t1]
        refine z_icmp_geN (tgt := 44) d_m_tell_19 22 rfl rfl (by omega) (by omega) (fun h19 => ?_) (fun h19 => ?_)
        · refine z_aload_n d_m_tell_44 45 rfl rfl rfl ?_
          refine zm_getA 4 d_m_tell_45 48 rfl f_m_23 rfl ?_
          refine z_bipush (v := nI 32) d_m_tell_48 50 rfl rfl ?_
          refine z_iload_n d_m_tell_50 51 rfl rfl rfl ?_
          first | refine z_imulN d_m_tell_51 52 rfl ?_ | refine z_imul d_m_tell_51 52 rfl ?_
          refine z_aload_n d_m_tell_52 53 rfl rfl rfl ?_
          refine zm_getA 5 d_m_tell_53 56 rfl f_m_26 rfl ?_
          refine z_iload_n d_m_tell_56 57 rfl rfl rfl ?_
          refine zm_iald d_m_tell_57 58 rfl (by decide) rfl (by simp only [zln]; omega) ?_
          rw [t1]
          first | refine z_iaddN d_m_tell_58 59 rfl ?_ | refine z_iadd d_m_tell_58 59 rfl ?_
          refine z_iload_n d_m_tell_59 60 rfl rfl rfl ?_
          refine zm_iast d_m_tell_60 61 rfl (by decide) rfl (by simp only [zln]; omega) ?_
          refine z_aload_n d_m_tell_61 62 rfl rfl rfl ?_
          refine zm_getA 5 d_m_tell_62 65 rfl f_m_26 rfl ?_
          refine z_iload_n d_m_tell_65 66 rfl rfl rfl ?_
          refine z_dup2 d_m_tell_66 67 rfl rfl rfl ?_
          refine zm_iald d_m_tell_67 68 rfl (by decide) rfl (by simp only [zln]; omega) ?_
          rw [show va_up va 4 (upd (va 4) (32 * r + T.length) (nI n)) 5 r = nI T.length from t1]
          refine z_iconst (v := nI 1) d_m_tell_68 69 rfl rfl ?_
          first | refine z_iaddN d_m_tell_69 70 rfl ?_ | refine z_iadd d_m_tell_69 70 rfl ?_
          refine zm_iast d_m_tell_70 71 rfl (by decide) rfl (by simp only [zln]; omega) ?_
          refine ?_
          have := hQ (j1 h6) hnT (va_up (va_up va 4 (upd (va 4) (32 * r + T.length) (nI n))) 5 (upd (va_up va 4 (upd (va 4) (32 * r + T.length) (nI n)) 5) r (nI (T.length + 1)))) (fun j h1 h2 => by simp only [va_up]; rw [if_neg h2, if_neg h1]) (fun q hq => by show upd (va 5) r _ q = _; exact pk_un hq) (fun i hi => by show upd (va 4) _ _ i = _; exact pk_un hi) ⟨by show upd (va 5) r _ r = _; rw [pk_us]; simp, by simp; omega, fun i hi => by
            simp at hi
            show upd (va 4) (32 * r + T.length) (nI n) (32 * r + i) = _ ∧ _
            by_cases e : i = T.length
            · subst e
              rw [pk_us]
              simp [hn]
            · rw [pk_un (by omega), show (T ++ [n]).getD i 0 = T.getD i 0 by simp [List.getElem?_append_left (show i < T.length by omega)]]
              exact t3 i (by omega)⟩
          exact z_vret d_m_tell_71 rfl (Nat.le_refl 0) (Nat.le_refl 0) this
        · omega
      | succ c ih =>
        intro j hj hno
        have h3 := t3 j (by omega)
        refine z_iload_n d_m_tell_12 13 rfl rfl rfl ?_
        refine z_aload_n d_m_tell_13 14 rfl rfl rfl ?_
        refine zm_getA 5 d_m_tell_14 17 rfl f_m_26 rfl ?_
        refine z_iload_n d_m_tell_17 18 rfl rfl rfl ?_
        refine zm_iald d_m_tell_18 19 rfl (by decide) rfl (by simp only [zln]; omega) ?_
        rw [t1]
        refine z_icmp_geN (tgt := 44) d_m_tell_19 22 rfl rfl (by omega) (by omega) (fun h19 => ?_) (fun h19 => ?_)
        · omega
        · refine z_aload_n d_m_tell_22 23 rfl rfl rfl ?_
          refine zm_getA 4 d_m_tell_23 26 rfl f_m_23 rfl ?_
          refine z_bipush (v := nI 32) d_m_tell_26 28 rfl rfl ?_
          refine z_iload_n d_m_tell_28 29 rfl rfl rfl ?_
          first | refine z_imulN d_m_tell_29 30 rfl ?_ | refine z_imul d_m_tell_29 30 rfl ?_
          refine z_iload_n d_m_tell_30 31 rfl rfl rfl ?_
          first | refine z_iaddN d_m_tell_31 32 rfl ?_ | refine z_iadd d_m_tell_31 32 rfl ?_
          refine zm_iald d_m_tell_32 33 rfl (by decide) rfl (by simp only [zln]; omega) ?_
          rw [h3.1]
          refine z_iload_n d_m_tell_33 34 rfl rfl rfl ?_
          refine z_icmp_neN (tgt := 38) d_m_tell_34 37 rfl rfl (by omega) (by omega) (fun h34 => ?_) (fun h34 => ?_)
          · first | refine z_incN3 d_m_tell_38 41 rfl rfl ?_ | refine z_inc3 d_m_tell_38 41 rfl rfl rfl ?_
            refine z_goto (tgt := 12) d_m_tell_41 rfl ?_
            exact ih (j + 1) (by omega) (fun i hi => by by_cases e : i = j; (rw [e]; exact h34); (exact hno i (by omega)))
          · exact z_vret d_m_tell_37 rfl (Nat.le_refl 0) (Nat.le_refl 0) (hQ0 (Or.inr (by rw [← h34]; exact getD_mem (by omega))))
    exact loop T.length 0 (by omega) (fun i hi => by omega)
  · exact z_vret d_m_tell_9 rfl (Nat.le_refl 0) (Nat.le_refl 0) (hQ0 (Or.inl (by obtain ⟨-, -, b3, -⟩ := j2 _ h6; rw [b3]; simp)))
theorem c_m_listWanted (r : Nat) {As : List (List Nat)} {T : List Nat} (hr2 : r < 2) (hR : repP va r As) (hT : toldP va r T)
    (hQ : ∀ (va' : Nat → Nat → Int32) (f : Nat → Int32) (L : List Nat), k8 va va' → (∀ x, x ∈ L ↔ (x ∈ T ∨ ∃ a, a ∈ As ∧ x ∈ needA a) ∧ lk As (nI x) = none) → L.length < 900 → listP va' f L → Q none (zmod D o hp va' f)) : Runs l D M_m_listWanted [.ref o, .int (nI r)] (zmod D o hp va vf) 0 0 Q := by
  refine Runs.of rfl rfl (Nat.le_of_ble_eq_true rfl) ?_
  have h32 := hR.1
  obtain ⟨t1, t2, t3⟩ := hT
  have hU : (T ++ As.flatMap needA).length < 900 := by
    have : ∀ B : List (List Nat), (∀ a, a ∈ B → a.length ≤ 240) → (B.flatMap needA).length ≤ 27 * B.length := by
      intro B
      induction B with
      | nil => intro _; simp
      | cons a t ih =>
        intro h
        have h1 := needA_len (h a List.mem_cons_self)
        have h2 := ih (fun b hb => h b (List.mem_cons_of_mem _ hb))
        simp only [List.flatMap_cons, List.length_append, List.length_cons]
        omega
    have h := this As (fun a ha => by
      obtain ⟨i, hi, e⟩ := List.getElem_of_mem ha
      have := (hR.2.2 i hi).1.2.2
      rw [List.getD_eq_getElem?_getD, List.getElem?_eq_getElem hi] at this
      rw [← e]
      exact this)
    rw [List.length_append]
    omega
  have hlen : ∀ (L : List Nat), SS L → (∀ x, x ∈ L → x ∈ T ∨ ∃ a, a ∈ As ∧ x ∈ needA a) → L.length < 900 := by
    intro L hS h
    refine Nat.lt_of_le_of_lt (SS_len hS fun x hx => ?_) hU
    rcases h x hx with h | ⟨a, h1, h2⟩
    · exact List.mem_append_left _ h
    · exact List.mem_append_right _ (List.mem_flatMap.mpr ⟨a, h1, h2⟩)
  -- the artifacts
  have loop2 : ∀ (c j : Nat) (x : Nat → Nat → Int32) (f : Nat → Int32) (L : List Nat) (z3 z4 z5 : Option Value), j + c = As.length → k8 va x → (∀ y, y ∈ L ↔ (y ∈ T ∨ ∃ a, a ∈ As.take j ∧ y ∈ needA a) ∧ lk As (nI y) = none) → listP x f L → (∀ v, z3 = some v → v.category = 1) → (∀ v, z4 = some v → v.category = 1) → Z l D M_m_listWanted 0 0 Q (zmod D o hp x f) 0 0 44 [some (.ref o), some (.int (nI r)), some (.int (nI (32 * r + j))), z3, z4, z5] [] := by
    intro c
    induction c with
    | zero =>
      intro j x f L z3 z4 z5 hj hx hm hL hz3 hz4
      have hRx := hx.rep hR
      refine z_iload_n d_m_listWanted_44 45 rfl rfl rfl ?_
      refine z_bipush (v := nI 32) d_m_listWanted_45 47 rfl rfl ?_
      refine z_iload_n d_m_listWanted_47 48 rfl rfl rfl ?_
      first | refine z_imulN d_m_listWanted_48 49 rfl ?_ | refine z_imul d_m_listWanted_48 49 rfl ?_
      refine z_aload_n d_m_listWanted_49 50 rfl rfl rfl ?_
      refine zm_getA 3 d_m_listWanted_50 53 rfl f_m_20 rfl ?_
      refine z_iload_n d_m_listWanted_53 54 rfl rfl rfl ?_
      refine zm_iald d_m_listWanted_54 55 rfl (by decide) rfl (by simp only [zln]; omega) ?_
      rw [hRx.2.1]
      first | refine z_iaddN d_m_listWanted_55 56 rfl ?_ | refine z_iadd d_m_listWanted_55 56 rfl ?_
      refine z_icmp_geN (tgt := 176) d_m_listWanted_56 59 rfl rfl (by omega) (by omega) (fun h56 => ?_) (fun h56 => ?_)
      · rw [List.take_of_length_le (by omega)] at hm
        exact z_vret d_m_listWanted_176 rfl (Nat.le_refl 0) (Nat.le_refl 0) (hQ x f L hx hm (hlen L hL.2.2.1 (fun y hy => ((hm y).1 hy).1)) hL)
      · omega
    | succ c ih =>
      intro j x f L z3 z4 z5 hj hx hm hL hz3 hz4
      have hRx := hx.rep hR
      have h3 := sortM_le (As.getD j [])
      obtain ⟨hsl, -⟩ := hRx.2.2 j (by omega)
      have hmem : As.getD j [] ∈ As := by rw [List.getD_eq_getElem?_getD, List.getElem?_eq_getElem (show j < As.length by omega)]; exact List.getElem_mem _
      have htk : As.take (j + 1) = As.take j ++ [As.getD j []] := by
        rw [List.take_add_one, show As[j]? = some (As.getD j []) by rw [List.getD_eq_getElem?_getD, List.getElem?_eq_getElem (by omega)]; rfl]
        rfl
      refine z_iload_n d_m_listWanted_44 45 rfl rfl rfl ?_
      refine z_bipush (v := nI 32) d_m_listWanted_45 47 rfl rfl ?_
      refine z_iload_n d_m_listWanted_47 48 rfl rfl rfl ?_
      first | refine z_imulN d_m_listWanted_48 49 rfl ?_ | refine z_imul d_m_listWanted_48 49 rfl ?_
      refine z_aload_n d_m_listWanted_49 50 rfl rfl rfl ?_
      refine zm_getA 3 d_m_listWanted_50 53 rfl f_m_20 rfl ?_
      refine z_iload_n d_m_listWanted_53 54 rfl rfl rfl ?_
      refine zm_iald d_m_listWanted_54 55 rfl (by decide) rfl (by simp only [zln]; omega) ?_
      rw [hRx.2.1]
      first | refine z_iaddN d_m_listWanted_55 56 rfl ?_ | refine z_iadd d_m_listWanted_55 56 rfl ?_
      refine z_icmp_geN (tgt := 176) d_m_listWanted_56 59 rfl rfl (by omega) (by omega) (fun h56 => ?_) (fun h56 => ?_)
      · omega
      · generalize As.getD j [] = bs at h3 hsl hmem htk
        refine z_aload_n d_m_listWanted_59 60 rfl rfl rfl ?_
        refine z_iload_n d_m_listWanted_60 61 rfl rfl rfl ?_
        refine zm_cV (fun v a f' => v = .int (nI (sortM bs)) ∧ x = a ∧ f' 9 = f 9) d_m_listWanted_61 64 rfl mv_m_sort kl_m_101 (by decide) (fun Q' h => c_m_sort _ hsl (by omega) (fun f h1 => h _ _ _ ⟨rfl, rfl, h1⟩)) rfl rfl (Nat.le_of_ble_eq_true rfl) ?_; rintro _ _ f1 ⟨rfl, rfl, i1⟩
        have hL1 : listP x f1 L := ⟨i1.trans hL.1, hL.2⟩
        obtain ⟨hr1, hln, hl⟩ := hsl
        refine z_ist3 d_m_listWanted_64 65 rfl rfl ?_
        refine z_iconst (v := nI 0) d_m_listWanted_65 66 rfl rfl ?_
        refine z_ist4 d_m_listWanted_66 68 rfl rfl ?_
        -- the lines
        have next : ∀ (x2 : Nat → Nat → Int32) (f2 : Nat → Int32) (L2 : List Nat) (k : Nat) (z : Option Value), k8 va x2 → (∀ y, y ∈ L2 ↔ (y ∈ T ∨ ∃ a, a ∈ As.take (j + 1) ∧ y ∈ needA a) ∧ lk As (nI y) = none) → listP x2 f2 L2 → Z l D M_m_listWanted 0 0 Q (zmod D o hp x2 f2) 0 0 170 [some (.ref o), some (.int (nI r)), some (.int (nI (32 * r + j))), some (.int (nI (sortM bs))), some (.int (nI k)), z] [] := by
          intro x2 f2 L2 k z a1 a2 a3
          first | refine z_incN2 d_m_listWanted_170 173 rfl rfl ?_ | refine z_inc2 d_m_listWanted_170 173 rfl rfl rfl ?_
          refine z_goto (tgt := 44) d_m_listWanted_173 rfl ?_
          exact ih (j + 1) x2 f2 L2 _ _ _ (by omega) a1 a2 a3 (fun v hv => by cases hv; rfl) (fun v hv => by cases hv; rfl)
        by_cases hk13 : sortM bs = 1 ∨ sortM bs = 3
        · have hneed : needA bs = (lns bs).flatMap needC := by simp [needA, hk13]
          have lines : ∀ (g k : Nat) (x2 : Nat → Nat → Int32) (f2 : Nat → Int32) (L2 P : List Nat) (z : Option Value), bs.length ≤ k + g → k ≤ bs.length → k8 va x2 → needA bs = P ++ (lnsF bs g k).flatMap needC → (∀ y, y ∈ L2 ↔ ((y ∈ T ∨ ∃ a, a ∈ As.take j ∧ y ∈ needA a) ∨ y ∈ P) ∧ lk As (nI y) = none) → listP x2 f2 L2 → Z l D M_m_listWanted 0 0 Q (zmod D o hp x2 f2) 0 0 68 [some (.ref o), some (.int (nI r)), some (.int (nI (32 * r + j))), some (.int (nI (sortM bs))), some (.int (nI k)), z] [] := by
            intro g
            induction g with
            | zero =>
              intro k x2 f2 L2 P z hg hk hx2 hP hm2 hL2
              have fin : Z l D M_m_listWanted 0 0 Q (zmod D o hp x2 f2) 0 0 170 [some (.ref o), some (.int (nI r)), some (.int (nI (32 * r + j))), some (.int (nI (sortM bs))), some (.int (nI k)), z] [] := by
                rw [lnsF_end (by omega), List.flatMap_nil, List.append_nil] at hP
                refine next x2 f2 L2 k z hx2 (fun y => ?_) hL2
                rw [hm2 y, htk, ← hP]
                constructor
                · rintro ⟨(h | ⟨a, h1, h2⟩) | h, h9⟩
                  · exact ⟨Or.inl h, h9⟩
                  · exact ⟨Or.inr ⟨a, List.mem_append_left _ h1, h2⟩, h9⟩
                  · exact ⟨Or.inr ⟨bs, List.mem_append_right _ (List.mem_singleton.mpr rfl), h⟩, h9⟩
                · rintro ⟨h | ⟨a, h1, h2⟩, h9⟩
                  · exact ⟨Or.inl (Or.inl h), h9⟩
                  · rcases List.mem_append.mp h1 with h1 | h1
                    · exact ⟨Or.inl (Or.inr ⟨a, h1, h2⟩), h9⟩
                    · rw [List.mem_singleton.mp h1] at h2
                      exact ⟨Or.inr h2, h9⟩
              have hln2 : x2 1 (32 * r + j) = nI bs.length := by rw [hx2 1 (by decide), ← hx 1 (by decide)]; exact hln
              have g78 : Z l D M_m_listWanted 0 0 Q (zmod D o hp x2 f2) 0 0 78 [some (.ref o), some (.int (nI r)), some (.int (nI (32 * r + j))), some (.int (nI (sortM bs))), some (.int (nI k)), z] [] := by
                refine z_iload d_m_listWanted_78 80 rfl rfl ?_
                refine z_aload_n d_m_listWanted_80 81 rfl rfl rfl ?_
                refine zm_getA 1 d_m_listWanted_81 84 rfl f_m_13 rfl ?_
                refine z_iload_n d_m_listWanted_84 85 rfl rfl rfl ?_
                refine zm_iald d_m_listWanted_85 86 rfl (by decide) rfl (by simp only [zln]; omega) ?_
                rw [hln2]
                refine z_icmp_geN (tgt := 170) d_m_listWanted_86 89 rfl rfl (by omega) (by omega) (fun h86 => ?_) (fun h86 => ?_)
                · exact fin
                · omega
              refine z_iload_n d_m_listWanted_68 69 rfl rfl rfl ?_
              refine z_iconst (v := nI 1) d_m_listWanted_69 70 rfl rfl ?_
              refine z_icmp_eqN (tgt := 78) d_m_listWanted_70 73 rfl rfl (by omega) (by omega) (fun h70 => ?_) (fun h70 => ?_)
              · exact g78
              · refine z_iload_n d_m_listWanted_73 74 rfl rfl rfl ?_
                refine z_iconst (v := nI 3) d_m_listWanted_74 75 rfl rfl ?_
                refine z_icmp_neN (tgt := 170) d_m_listWanted_75 78 rfl rfl (by omega) (by omega) (fun h75 => ?_) (fun h75 => ?_)
                · omega
                · exact g78
            | succ g ihg =>
              intro k x2 f2 L2 P z hg hk hx2 hP hm2 hL2
              have hR2 := hx2.rep hR
              have hsl2 : slotP x2 (32 * r + j) bs := by
                refine k8.slot (va := x) (fun q hq => ?_) ⟨hr1, hln, hl⟩
                rw [hx2 q hq, hx q hq]
              have fin0 : (lnsF bs (g + 1) k).flatMap needC = [] → ∀ (f3 : Nat → Int32) (k' : Nat) (z' : Option Value), f3 9 = f2 9 → Z l D M_m_listWanted 0 0 Q (zmod D o hp x2 f3) 0 0 170 [some (.ref o), some (.int (nI r)), some (.int (nI (32 * r + j))), some (.int (nI (sortM bs))), some (.int (nI k')), z'] [] := by
                intro he f3 k' z' hf3
                rw [he, List.append_nil] at hP
                refine next x2 f3 L2 k' z' hx2 (fun y => ?_) ⟨hf3.trans hL2.1, hL2.2⟩
                rw [hm2 y, htk, ← hP]
                constructor
                · rintro ⟨(h | ⟨a, h1, h2⟩) | h, h9⟩
                  · exact ⟨Or.inl h, h9⟩
                  · exact ⟨Or.inr ⟨a, List.mem_append_left _ h1, h2⟩, h9⟩
                  · exact ⟨Or.inr ⟨bs, List.mem_append_right _ (List.mem_singleton.mpr rfl), h⟩, h9⟩
                · rintro ⟨h | ⟨a, h1, h2⟩, h9⟩
                  · exact ⟨Or.inl (Or.inl h), h9⟩
                  · rcases List.mem_append.mp h1 with h1 | h1
                    · exact ⟨Or.inl (Or.inr ⟨a, h1, h2⟩), h9⟩
                    · rw [List.mem_singleton.mp h1] at h2
                      exact ⟨Or.inr h2, h9⟩
              have g78 : Z l D M_m_listWanted 0 0 Q (zmod D o hp x2 f2) 0 0 78 [some (.ref o), some (.int (nI r)), some (.int (nI (32 * r + j))), some (.int (nI (sortM bs))), some (.int (nI k)), z] [] := by
                refine z_iload d_m_listWanted_78 80 rfl rfl ?_
                refine z_aload_n d_m_listWanted_80 81 rfl rfl rfl ?_
                refine zm_getA 1 d_m_listWanted_81 84 rfl f_m_13 rfl ?_
                refine z_iload_n d_m_listWanted_84 85 rfl rfl rfl ?_
                refine zm_iald d_m_listWanted_85 86 rfl (by decide) rfl (by simp only [zln]; omega) ?_
                rw [hsl2.2.1]
                refine z_icmp_geN (tgt := 170) d_m_listWanted_86 89 rfl rfl (by omega) (by omega) (fun h86 => ?_) (fun h86 => ?_)
                · exact fin0 (by rw [lnsF_end (by omega)]; rfl) f2 k z rfl
                · refine z_aload_n d_m_listWanted_89 90 rfl rfl rfl ?_
                  refine z_iload_n d_m_listWanted_90 91 rfl rfl rfl ?_
                  refine z_iload d_m_listWanted_91 93 rfl rfl ?_
                  refine zm_cV (fun v a f' => v = .int (zb (rdl bs k).isSome) ∧ x2 = a ∧ f' 9 = f2 9 ∧ rdP (rdl bs k) f') d_m_listWanted_93 96 rfl mv_m_readLine kl_m_90 (by decide) (fun Q' h => c_m_readLine _ k hsl2.1 hsl2.2.1 hk (by omega) hl (fun f h1 h2 => h _ _ _ ⟨rfl, rfl, h1, h2⟩)) rfl rfl (Nat.le_of_ble_eq_true rfl) ?_; rintro _ _ f3 ⟨rfl, rfl, i3, i4⟩
                  refine z_if_eqB (tgt := 170) d_m_listWanted_96 99 rfl rfl (fun h96 => ?_) (fun h96 => ?_)
                  · exact fin0 (by rw [lnsF_none (by simpa using h96)]; rfl) f3 k z i3
                  · obtain ⟨⟨e, cd⟩, hrd⟩ := Option.isSome_iff_exists.mp h96
                    obtain ⟨e1, e2, e3⟩ := rdl_some hk hrd
                    rw [lnsF_some (by omega) hrd, List.flatMap_cons, ← List.append_assoc] at hP
                    rw [hrd] at i4
                    have hL3 : listP x2 f3 L2 := ⟨i3.trans hL2.1, hL2.2⟩
                    have g10 : f3 10 = nI e := by cases cd with
                      | none => exact i4.1
                      | some c => exact i4.1
                    refine z_aload_n d_m_listWanted_99 100 rfl rfl rfl ?_
                    refine zm_getF 10 d_m_listWanted_100 103 rfl f_m_51 rfl ?_; try simp only [pk_us, pk_un, ne_eq, Nat.reduceEqDiff, not_false_eq_true]
                    rw [g10]
                    refine z_ist4 d_m_listWanted_103 105 rfl rfl ?_
                    refine z_aload_n d_m_listWanted_105 106 rfl rfl rfl ?_
                    refine zm_getF 11 d_m_listWanted_106 109 rfl f_m_47 rfl ?_; try simp only [pk_us, pk_un, ne_eq, Nat.reduceEqDiff, not_false_eq_true]
                    have skip : needC cd = [] → Z l D M_m_listWanted 0 0 Q (zmod D o hp x2 f3) 0 0 68 [some (.ref o), some (.int (nI r)), some (.int (nI (32 * r + j))), some (.int (nI (sortM bs))), some (.int (nI e)), z] [] := by
                      intro hn
                      rw [hn, List.append_nil] at hP
                      exact ihg e x2 f3 L2 P z (by omega) e2 hx2 hP hm2 hL3
                    cases cd with
                    | none =>
                      rw [i4.2]
                      refine z_bipush (v := nI 70) d_m_listWanted_109 111 rfl rfl ?_
                      refine z_icmp_eqN (tgt := 132) d_m_listWanted_111 114 rfl rfl (by omega) (by omega) (fun h111 => ?_) (fun h111 => ?_)
                      · omega
                      · refine z_aload_n d_m_listWanted_114 115 rfl rfl rfl ?_
                        refine zm_getF 11 d_m_listWanted_115 118 rfl f_m_47 rfl ?_; try simp only [pk_us, pk_un, ne_eq, Nat.reduceEqDiff, not_false_eq_true]
                        rw [i4.2]
                        refine z_bipush (v := nI 77) d_m_listWanted_118 120 rfl rfl ?_
                        refine z_icmp_eqN (tgt := 132) d_m_listWanted_120 123 rfl rfl (by omega) (by omega) (fun h120 => ?_) (fun h120 => ?_)
                        · omega
                        · refine z_aload_n d_m_listWanted_123 124 rfl rfl rfl ?_
                          refine zm_getF 11 d_m_listWanted_124 127 rfl f_m_47 rfl ?_; try simp only [pk_us, pk_un, ne_eq, Nat.reduceEqDiff, not_false_eq_true]
                          rw [i4.2]
                          refine z_bipush (v := nI 80) d_m_listWanted_127 129 rfl rfl ?_
                          refine z_icmp_neN (tgt := 68) d_m_listWanted_129 132 rfl rfl (by omega) (by omega) (fun h129 => ?_) (fun h129 => ?_)
                          · exact skip rfl
                          · omega
                    | some c =>
                      obtain ⟨-, i5, i6, i7, -⟩ := i4
                      obtain ⟨hc1, hcx, hcy, -, -, -, hcs, hcn⟩ := e3 c rfl
                      have hmP : ∀ y, y ∈ P → y ∈ needA bs := fun y hy => by rw [hP]; exact List.mem_append_left _ (List.mem_append_left _ hy)
                      have hmC : ∀ y, y ∈ needC (some c) → y ∈ needA bs := fun y hy => by rw [hP]; exact List.mem_append_left _ (List.mem_append_right _ hy)
                      have hb2 : ∀ (M : List Nat), SS M → (∀ y, y ∈ M → y ∈ L2 ∨ y ∈ needC (some c)) → M.length < 900 := by
                        intro M hM h
                        refine hlen M hM fun y hy => ?_
                        rcases h y hy with h | h
                        · rcases ((hm2 y).1 h).1 with (h | ⟨a, h1, h2⟩) | h
                          · exact Or.inl h
                          · exact Or.inr ⟨a, List.mem_of_mem_take h1, h2⟩
                          · exact Or.inr ⟨bs, hmem, hmP y h⟩
                        · exact Or.inr ⟨bs, hmem, hmC y h⟩
                      have g132 : (c.1 = 70 ∨ c.1 = 77 ∨ c.1 = 80) → Z l D M_m_listWanted 0 0 Q (zmod D o hp x2 f3) 0 0 132 [some (.ref o), some (.int (nI r)), some (.int (nI (32 * r + j))), some (.int (nI (sortM bs))), some (.int (nI e)), z] [] := by
                        intro hlet
                        have hnc : needC (some c) = c.2.2.2.1.toList ++ (if c.1 = 80 then c.2.2.2.2.1.toList else []) := by simp [needC, hlet]
                        have g149 : ∀ w : Option Nat, w = (if c.1 = 80 then c.2.2.2.2.1 else none) → Z l D M_m_listWanted 0 0 Q (zmod D o hp x2 f3) 0 0 149 [some (.ref o), some (.int (nI r)), some (.int (nI (32 * r + j))), some (.int (nI (sortM bs))), some (.int (nI e)), z] [.int (oI w)] := by
                          intro w hw
                          have hnc2 : needC (some c) = c.2.2.2.1.toList ++ w.toList := by rw [hnc, hw]; split <;> rfl
                          refine z_ist5 d_m_listWanted_149 151 rfl rfl ?_
                          refine z_aload_n d_m_listWanted_151 152 rfl rfl rfl ?_
                          refine z_iload_n d_m_listWanted_152 153 rfl rfl rfl ?_
                          refine z_aload_n d_m_listWanted_153 154 rfl rfl rfl ?_
                          refine zm_getF 14 d_m_listWanted_154 157 rfl f_m_58 rfl ?_; try simp only [pk_us, pk_un, ne_eq, Nat.reduceEqDiff, not_false_eq_true]
                          rw [i6]
                          refine zm_cVv (fun a f' => ∃ L', k8 x2 a ∧ (∀ q, q ≠ 9 → f' q = f3 q) ∧ (∀ y, y ∈ L' ↔ (c.2.2.2.1 = some y ∧ lk As (nI y) = none) ∨ y ∈ L2) ∧ listP a f' L') d_m_listWanted_157 160 rfl mv_m_lack kl_m_146 (by decide) (fun Q' h => c_m_lack r _ hr2 hR2 hcx hL3 (hb2 L2 hL3.2.2.1 (fun y hy => Or.inl hy)) (fun a f L' h1 h2 h3 h4 => h _ _ ⟨L', h1, h2, h3, h4⟩)) rfl rfl (Nat.le_of_ble_eq_true rfl) ?_; rintro x4 f4 ⟨L4, k1, k2, k3, k4⟩
                          refine z_aload_n d_m_listWanted_160 161 rfl rfl rfl ?_
                          refine z_iload_n d_m_listWanted_161 162 rfl rfl rfl ?_
                          refine z_iload d_m_listWanted_162 164 rfl rfl ?_
                          have hb4 : L4.length < 900 := hb2 L4 k4.2.2.1 (fun y hy => by
                            rcases (k3 y).1 hy with ⟨h, -⟩ | h
                            · exact Or.inr (by rw [hnc2, h]; simp)
                            · exact Or.inl h)
                          refine zm_cVv (fun a f' => ∃ L', k8 x4 a ∧ (∀ y, y ∈ L' ↔ (w = some y ∧ lk As (nI y) = none) ∨ y ∈ L4) ∧ listP a f' L') d_m_listWanted_164 167 rfl mv_m_lack kl_m_146 (by decide) (fun Q' h => c_m_lack r _ hr2 (k1.rep hR2) (fun v hv => by rw [hw] at hv; split at hv; (exact hcy v hv); (cases hv)) k4 hb4 (fun a f L' h1 h2 h3 h4 => h _ _ ⟨L', h1, h3, h4⟩)) rfl rfl (Nat.le_of_ble_eq_true rfl) ?_; rintro x5 f5 ⟨L5, m1, m3, m4⟩
                          refine z_goto (tgt := 68) d_m_listWanted_167 rfl ?_
                          refine ihg e x5 f5 L5 (P ++ needC (some c)) _ (by omega) e2 ((hx2.trans k1).trans m1) hP (fun y => ?_) m4
                          rw [m3 y, k3 y, hm2 y, hnc2, List.mem_append, List.mem_append, Option.mem_toList, Option.mem_toList]
                          constructor
                          · rintro (⟨h, h9⟩ | ⟨h, h9⟩ | ⟨h, h9⟩)
                            · exact ⟨Or.inr (Or.inr (Or.inr h)), h9⟩
                            · exact ⟨Or.inr (Or.inr (Or.inl h)), h9⟩
                            · rcases h with h | h
                              · exact ⟨Or.inl h, h9⟩
                              · exact ⟨Or.inr (Or.inl h), h9⟩
                          · rintro ⟨h | h | h | h, h9⟩
                            · exact Or.inr (Or.inr ⟨Or.inl h, h9⟩)
                            · exact Or.inr (Or.inr ⟨Or.inr h, h9⟩)
                            · exact Or.inr (Or.inl ⟨h, h9⟩)
                            · exact Or.inl ⟨h, h9⟩
                        refine z_aload_n d_m_listWanted_132 133 rfl rfl rfl ?_
                        refine zm_getF 11 d_m_listWanted_133 136 rfl f_m_47 rfl ?_; try simp only [pk_us, pk_un, ne_eq, Nat.reduceEqDiff, not_false_eq_true]
                        rw [i5]
                        refine z_bipush (v := nI 80) d_m_listWanted_136 138 rfl rfl ?_
                        refine z_icmp_neN (tgt := 148) d_m_listWanted_138 141 rfl rfl (by omega) (by omega) (fun h138 => ?_) (fun h138 => ?_)
                        · refine z_iconst (v := oI none) d_m_listWanted_148 149 rfl (by decide) ?_
                          exact g149 none (by rw [if_neg h138])
                        · refine z_aload_n d_m_listWanted_141 142 rfl rfl rfl ?_
                          refine zm_getF 15 d_m_listWanted_142 145 rfl f_m_61 rfl ?_; try simp only [pk_us, pk_un, ne_eq, Nat.reduceEqDiff, not_false_eq_true]
                          rw [i7]
                          refine z_goto (tgt := 149) d_m_listWanted_145 rfl ?_
                          exact g149 _ (by rw [if_pos h138])
                      rw [i5]
                      refine z_bipush (v := nI 70) d_m_listWanted_109 111 rfl rfl ?_
                      refine z_icmp_eqN (tgt := 132) d_m_listWanted_111 114 rfl rfl (by omega) (by omega) (fun h111 => ?_) (fun h111 => ?_)
                      · exact g132 (Or.inl h111)
                      · refine z_aload_n d_m_listWanted_114 115 rfl rfl rfl ?_
                        refine zm_getF 11 d_m_listWanted_115 118 rfl f_m_47 rfl ?_; try simp only [pk_us, pk_un, ne_eq, Nat.reduceEqDiff, not_false_eq_true]
                        rw [i5]
                        refine z_bipush (v := nI 77) d_m_listWanted_118 120 rfl rfl ?_
                        refine z_icmp_eqN (tgt := 132) d_m_listWanted_120 123 rfl rfl (by omega) (by omega) (fun h120 => ?_) (fun h120 => ?_)
                        · exact g132 (Or.inr (Or.inl h120))
                        · refine z_aload_n d_m_listWanted_123 124 rfl rfl rfl ?_
                          refine zm_getF 11 d_m_listWanted_124 127 rfl f_m_47 rfl ?_; try simp only [pk_us, pk_un, ne_eq, Nat.reduceEqDiff, not_false_eq_true]
                          rw [i5]
                          refine z_bipush (v := nI 80) d_m_listWanted_127 129 rfl rfl ?_
                          refine z_icmp_neN (tgt := 68) d_m_listWanted_129 132 rfl rfl (by omega) (by omega) (fun h129 => ?_) (fun h129 => ?_)
                          · exact skip (by simp [needC, h111, h120, h129])
                          · exact g132 (Or.inr (Or.inr h129))
              refine z_iload_n d_m_listWanted_68 69 rfl rfl rfl ?_
              refine z_iconst (v := nI 1) d_m_listWanted_69 70 rfl rfl ?_
              refine z_icmp_eqN (tgt := 78) d_m_listWanted_70 73 rfl rfl (by omega) (by omega) (fun h70 => ?_) (fun h70 => ?_)
              · exact g78
              · refine z_iload_n d_m_listWanted_73 74 rfl rfl rfl ?_
                refine z_iconst (v := nI 3) d_m_listWanted_74 75 rfl rfl ?_
                refine z_icmp_neN (tgt := 170) d_m_listWanted_75 78 rfl rfl (by omega) (by omega) (fun h75 => ?_) (fun h75 => ?_)
                · omega
                · exact g78
          exact lines bs.length 0 x f1 L [] z5 (by omega) (Nat.zero_le _) hx (by rw [hneed]; rfl) (fun y => by rw [hm y]; simp) hL1
        · have e0 : needA bs = [] := by simp [needA, hk13]
          refine z_iload_n d_m_listWanted_68 69 rfl rfl rfl ?_
          refine z_iconst (v := nI 1) d_m_listWanted_69 70 rfl rfl ?_
          refine z_icmp_eqN (tgt := 78) d_m_listWanted_70 73 rfl rfl (by omega) (by omega) (fun h70 => ?_) (fun h70 => ?_)
          · omega
          · refine z_iload_n d_m_listWanted_73 74 rfl rfl rfl ?_
            refine z_iconst (v := nI 3) d_m_listWanted_74 75 rfl rfl ?_
            refine z_icmp_neN (tgt := 170) d_m_listWanted_75 78 rfl rfl (by omega) (by omega) (fun h75 => ?_) (fun h75 => ?_)
            · refine next x f1 L 0 z5 hx (fun y => ?_) hL1
              rw [hm y, htk]
              constructor
              · rintro ⟨h | ⟨a, h1, h2⟩, h9⟩
                · exact ⟨Or.inl h, h9⟩
                · exact ⟨Or.inr ⟨a, List.mem_append_left _ h1, h2⟩, h9⟩
              · rintro ⟨h | ⟨a, h1, h2⟩, h9⟩
                · exact ⟨Or.inl h, h9⟩
                · rcases List.mem_append.mp h1 with h1 | h1
                  · exact ⟨Or.inr ⟨a, h1, h2⟩, h9⟩
                  · rw [List.mem_singleton.mp h1, e0] at h2
                    cases h2
            · omega
  refine z_aload_n d_m_listWanted_0 1 rfl rfl rfl ?_
  refine z_iconst (v := nI 0) d_m_listWanted_1 2 rfl rfl ?_
  refine zm_putF 9 d_m_listWanted_2 5 rfl (p_m_136 _) (by decide) (by decide) ?_
  refine z_iconst (v := nI 0) d_m_listWanted_5 6 rfl rfl ?_
  refine z_ist2 d_m_listWanted_6 7 rfl rfl ?_
  have loop1 : ∀ (c j : Nat) (x : Nat → Nat → Int32) (f : Nat → Int32) (L : List Nat), j + c = T.length → k8 va x → (∀ y, y ∈ L ↔ y ∈ T.take j ∧ lk As (nI y) = none) → listP x f L → Z l D M_m_listWanted 0 0 Q (zmod D o hp x f) 0 0 7 [some (.ref o), some (.int (nI r)), some (.int (nI j)), none, none, none] [] := by
    intro c
    induction c with
    | zero =>
      intro j x f L hj hx hm hL
      refine z_iload_n d_m_listWanted_7 8 rfl rfl rfl ?_
      refine z_aload_n d_m_listWanted_8 9 rfl rfl rfl ?_
      refine zm_getA 5 d_m_listWanted_9 12 rfl f_m_26 rfl ?_
      refine z_iload_n d_m_listWanted_12 13 rfl rfl rfl ?_
      refine zm_iald d_m_listWanted_13 14 rfl (by decide) rfl (by simp only [zln]; omega) ?_
      rw [show x 5 r = nI T.length by rw [hx 5 (by decide)]; exact t1]
      refine z_icmp_geN (tgt := 39) d_m_listWanted_14 17 rfl rfl (by omega) (by omega) (fun h14 => ?_) (fun h14 => ?_)
      · refine z_bipush (v := nI 32) d_m_listWanted_39 41 rfl rfl ?_
        refine z_iload_n d_m_listWanted_41 42 rfl rfl rfl ?_
        first | refine z_imulN d_m_listWanted_42 43 rfl ?_ | refine z_imul d_m_listWanted_42 43 rfl ?_
        refine z_ist2 d_m_listWanted_43 44 rfl rfl ?_
        rw [List.take_of_length_le (by omega)] at hm
        exact loop2 As.length 0 x f L none none none (by omega) hx (fun y => by rw [hm y]; simp) hL (fun v hv => by cases hv) (fun v hv => by cases hv)
      · omega
    | succ c ih =>
      intro j x f L hj hx hm hL
      obtain ⟨t4, t5⟩ := t3 j (by omega)
      have htk : T.take (j + 1) = T.take j ++ [T.getD j 0] := by
        rw [List.take_add_one, show T[j]? = some (T.getD j 0) by rw [List.getD_eq_getElem?_getD, List.getElem?_eq_getElem (by omega)]; rfl]
        rfl
      have hl : L.length < 900 := hlen L hL.2.2.1 (fun y hy => Or.inl (List.mem_of_mem_take ((hm y).1 hy).1))
      refine z_iload_n d_m_listWanted_7 8 rfl rfl rfl ?_
      refine z_aload_n d_m_listWanted_8 9 rfl rfl rfl ?_
      refine zm_getA 5 d_m_listWanted_9 12 rfl f_m_26 rfl ?_
      refine z_iload_n d_m_listWanted_12 13 rfl rfl rfl ?_
      refine zm_iald d_m_listWanted_13 14 rfl (by decide) rfl (by simp only [zln]; omega) ?_
      rw [show x 5 r = nI T.length by rw [hx 5 (by decide)]; exact t1]
      refine z_icmp_geN (tgt := 39) d_m_listWanted_14 17 rfl rfl (by omega) (by omega) (fun h14 => ?_) (fun h14 => ?_)
      · omega
      · refine z_aload_n d_m_listWanted_17 18 rfl rfl rfl ?_
        refine z_iload_n d_m_listWanted_18 19 rfl rfl rfl ?_
        refine z_aload_n d_m_listWanted_19 20 rfl rfl rfl ?_
        refine zm_getA 4 d_m_listWanted_20 23 rfl f_m_23 rfl ?_
        refine z_bipush (v := nI 32) d_m_listWanted_23 25 rfl rfl ?_
        refine z_iload_n d_m_listWanted_25 26 rfl rfl rfl ?_
        first | refine z_imulN d_m_listWanted_26 27 rfl ?_ | refine z_imul d_m_listWanted_26 27 rfl ?_
        refine z_iload_n d_m_listWanted_27 28 rfl rfl rfl ?_
        first | refine z_iaddN d_m_listWanted_28 29 rfl ?_ | refine z_iadd d_m_listWanted_28 29 rfl ?_
        refine zm_iald d_m_listWanted_29 30 rfl (by decide) rfl (by simp only [zln]; omega) ?_
        rw [show x 4 (32 * r + j) = oI (some (T.getD j 0)) by rw [hx 4 (by decide)]; exact t4]
        refine zm_cVv (fun a f' => ∃ L', k8 x a ∧ (∀ y, y ∈ L' ↔ (some (T.getD j 0) = some y ∧ lk As (nI y) = none) ∨ y ∈ L) ∧ listP a f' L') d_m_listWanted_30 33 rfl mv_m_lack kl_m_146 (by decide) (fun Q' h => c_m_lack r _ hr2 (hx.rep hR) (fun v hv => by cases hv; exact t5) hL hl (fun a f L' h1 h2 h3 h4 => h _ _ ⟨L', h1, h3, h4⟩)) rfl rfl (Nat.le_of_ble_eq_true rfl) ?_; rintro x2 f2 ⟨L2, m1, m3, m4⟩
        first | refine z_incN2 d_m_listWanted_33 36 rfl rfl ?_ | refine z_inc2 d_m_listWanted_33 36 rfl rfl rfl ?_
        refine z_goto (tgt := 7) d_m_listWanted_36 rfl ?_
        refine ih (j + 1) x2 f2 L2 (by omega) (hx.trans m1) (fun y => ?_) m4
        rw [m3 y, hm y, htk, List.mem_append, List.mem_singleton]
        constructor
        · rintro (⟨h, h9⟩ | ⟨h, h9⟩)
          · cases h; exact ⟨Or.inr rfl, h9⟩
          · exact ⟨Or.inl h, h9⟩
        · rintro ⟨h | h, h9⟩
          · exact Or.inr ⟨h, h9⟩
          · exact Or.inl ⟨by rw [h], h9⟩
  exact loop1 T.length 0 va _ [] (by omega) (fun _ _ => rfl) (fun y => by simp) ⟨by rw [pk_us]; rfl, by simp, List.Pairwise.nil, fun i hi => by simp at hi⟩
end M13
