/-! The reference: rounds, and what is asked of a repository. Own work. -/
def lcount {α : Type} (p : α → Bool) (l : List α) : Nat := (l.filter p).length
theorem lcount_cons {α : Type} (p : α → Bool) (a : α) (t : List α) : lcount p (a :: t) = (if p a = true then 1 else 0) + lcount p t := by
  unfold lcount
  cases h : p a <;> simp [List.filter_cons, h] <;> omega
theorem lcount_le {α : Type} (p : α → Bool) (l : List α) : lcount p l ≤ l.length := List.length_filter_le _ _
/-- children of a name among the check-ins -/
def isCh (As : List (List Nat)) (nm : Int32) (a : List Nat) : Bool := !decide (nm < 0) && (isCI As a && hasL 80 nm (lns a))
def chN (As : List (List Nat)) (nm : Int32) : Nat := lcount (isCh As nm) As
def lfN (As : List (List Nat)) : Nat := lcount (fun a => isCI As a && decide (chN As (nI (dg 7 a)) = 0)) As
theorem tOk_round {As : Nat → List (List Nat)} {T : Nat → List Nat} (h : tOk As T) {q : Nat} {B : List (List Nat)} (hB : ∀ a, a ∈ As q → a ∈ B) : tOk (upF As q B) T := by
  intro p hp
  refine ⟨(h p hp).1, fun x hx => ?_⟩
  obtain ⟨a, h1, h2⟩ := (h p hp).2 x hx
  refine ⟨a, ?_, h2⟩
  unfold upF
  split
  next e => rw [e] at h1; exact hB a h1
  next => exact h1
theorem addA_sub {As : List (List Nat)} {bs a : List Nat} (h : a ∈ As) : a ∈ addA As bs := by
  unfold addA
  split
  · exact List.mem_append_left _ h
  · exact h
theorem mkCl_sub {As : List (List Nat)} {a : List Nat} (h : a ∈ As) : a ∈ mkCl As := by
  unfold mkCl
  split
  · exact h
  · exact addA_sub h
theorem sendF_sub (Ar : List (List Nat)) : ∀ (l : List Nat) (z : Nat × Nat × List (List Nat)) (a : List Nat), a ∈ z.2.2 → a ∈ (sendF Ar l z).2.2 := by
  intro l
  induction l with
  | nil => intro z a h; exact h
  | cons n t ih =>
    intro z a h
    rw [sendF]
    split
    · split
      · exact ih _ a (addA_sub h)
      · exact ih _ a h
    · exact ih _ a h
theorem sendF_cnt (Ar : List (List Nat)) : ∀ (l : List Nat) (z : Nat × Nat × List (List Nat)), (sendF Ar l z).2.1 ≤ z.2.1 + l.length := by
  intro l
  induction l with
  | nil => intro z; simp [sendF]
  | cons n t ih =>
    intro z
    rw [sendF]
    simp only [List.length_cons]
    split
    next b hb =>
      split
      · have := ih (z.1 - b.length, z.2.1 + 1, addA z.2.2 b)
        simp only at this
        omega
      · have := ih z
        omega
    next => 
      have := ih z
      omega
/-- a message from r: what is held, told and asked for behind it -/
def msgA (As : Nat → List (List Nat)) (K : Nat → List Nat) (r b : Nat) : Nat → List (List Nat) := upF As (1 - r) (sendF (As r) (K (1 - r)) (b, 0, As (1 - r))).2.2
def msgT (As : Nat → List (List Nat)) (T K : Nat → List Nat) (r b : Nat) : Nat → List Nat := upF T (1 - r) (tellF (sendF (As r) (K (1 - r)) (b, 0, As (1 - r))).2.2 (looseL (As r)) (T (1 - r)))
def msgK (As : Nat → List (List Nat)) (T K : Nat → List Nat) (r : Nat) : Nat → List Nat := upF K r (wantL (As r) (T r))
def msgN (As : Nat → List (List Nat)) (K : Nat → List Nat) (r b : Nat) : Nat := (sendF (As r) (K (1 - r)) (b, 0, As (1 - r))).2.1
theorem tOk_msg {As : Nat → List (List Nat)} {T K : Nat → List Nat} {r b : Nat} (hr : r < 2) (h : tOk As T) : tOk (msgA As K r b) (msgT As T K r b) := by
  intro q hq
  unfold msgA msgT
  have hsub : ∀ p a, a ∈ As p → a ∈ upF As (1 - r) (sendF (As r) (K (1 - r)) (b, 0, As (1 - r))).2.2 p := by
    intro p a ha
    unfold upF
    split
    next e => rw [e] at ha; exact sendF_sub _ _ _ _ ha
    next => exact ha
  by_cases e : q = 1 - r
  · rw [show upF T (1 - r) (tellF (sendF (As r) (K (1 - r)) (b, 0, As (1 - r))).2.2 (looseL (As r)) (T (1 - r))) q = tellF (sendF (As r) (K (1 - r)) (b, 0, As (1 - r))).2.2 (looseL (As r)) (T (1 - r)) by unfold upF; rw [if_pos e]]
    obtain ⟨h1, h2⟩ := tellF_ok (sendF (As r) (K (1 - r)) (b, 0, As (1 - r))).2.2 (looseL (As r)) (T (1 - r)) (h (1 - r) (by omega)).1
    refine ⟨h1, fun x hx => ?_⟩
    rcases h2 x hx with g | g
    · obtain ⟨a, g1, g2⟩ := (h (1 - r) (by omega)).2 x g
      rw [e]
      exact ⟨a, hsub _ a g1, g2⟩
    · obtain ⟨a, g1, g2, -⟩ := looseL_mem.1 g
      exact ⟨a, hsub _ a (by rw [show 1 - q = r by omega]; exact g1), g2⟩
  · rw [show upF T (1 - r) (tellF (sendF (As r) (K (1 - r)) (b, 0, As (1 - r))).2.2 (looseL (As r)) (T (1 - r))) q = T q by unfold upF; rw [if_neg e]]
    refine ⟨(h q hq).1, fun x hx => ?_⟩
    obtain ⟨a, g1, g2⟩ := (h q hq).2 x hx
    exact ⟨a, hsub _ a g1, g2⟩
section M16
variable {l : Launch} {D : zD} {hp : zH} {o : Nat} {va : Nat → Nat → Int32} {vf : Nat → Int32} {Q : Option Value → zH → Prop} {As : Nat → List (List Nat)} {T K : Nat → List Nat} {dr : List Nat}
/-- what a round leaves -/
def rdA (As : Nat → List (List Nat)) : Nat → List (List Nat) := upF (upF As 0 (mkCl (As 0))) 1 (mkCl (As 1))
theorem c_m_round (b : Int32) (h : mSt As T K dr va) (hT : tOk As T)
    (hQ0 : (b < 0 ∨ ¬ b ≤ nI 10000) → Q (some (.int (-1))) (zmod D o hp va vf))
    (hQ : ¬ b < 0 → toN b ≤ 10000 → ∀ va' f, mSt (msgA (msgA (rdA As) K 0 (toN b)) (msgK (rdA As) T K 0) 1 (toN b)) (msgT (msgA (rdA As) K 0 (toN b)) (msgT (rdA As) T K 0 (toN b)) (msgK (rdA As) T K 0) 1 (toN b)) (msgK (msgA (rdA As) K 0 (toN b)) (msgT (rdA As) T K 0 (toN b)) (msgK (rdA As) T K 0) 1) dr va' → Q (some (.int (nI (msgN (rdA As) K 0 (toN b) + msgN (msgA (rdA As) K 0 (toN b)) (msgK (rdA As) T K 0) 1 (toN b))))) (zmod D o hp va' f)) :
    Runs l D M_m_round [.ref o, .int b] (zmod D o hp va vf) 0 0 Q := by
  refine Runs.of rfl rfl (Nat.le_of_ble_eq_true rfl) ?_
  refine z_iload_n d_m_round_0 1 rfl rfl rfl ?_
  refine z_if_lt (tgt := 11) d_m_round_1 4 rfl rfl (fun h1 => ?_) (fun h1 => ?_)
  · refine z_iconst (v := -1) d_m_round_11 12 rfl (by decide) ?_
    exact z_iret d_m_round_12 rfl (Nat.le_refl 0) (Nat.le_refl 0) (hQ0 (Or.inl h1))
  · refine z_iload_n d_m_round_4 5 rfl rfl rfl ?_
    refine z_sipush (v := nI 10000) d_m_round_5 8 rfl rfl ?_
    refine z_icmp_le (tgt := 13) d_m_round_8 11 rfl rfl (fun h8 => ?_) (fun h8 => ?_)
    · obtain ⟨e, he⟩ := nI_toN h1
      have hb : toN b ≤ 10000 := by rw [e] at h8; exact (nI_leI he (by decide)).1 h8
      have hQ2 := hQ h1 hb
      clear hQ hQ0
      generalize toN b = m at e he hb hQ2
      subst e
      refine z_aload_n d_m_round_13 14 rfl rfl rfl ?_
      refine z_iconst (v := nI 0) d_m_round_14 15 rfl rfl ?_
      refine zm_cVv (fun a f => mSt (upF As 0 (mkCl (As 0))) T K dr a) d_m_round_15 18 rfl mv_m_makeCluster kl_m_158 (by decide) (fun Q' hq => c_m_makeCluster 0 (by decide) h (fun a f h1 => hq _ _ h1)) rfl rfl (Nat.le_of_ble_eq_true rfl) ?_; rintro x1 f1 s1
      refine z_aload_n d_m_round_18 19 rfl rfl rfl ?_
      refine z_iconst (v := nI 1) d_m_round_19 20 rfl rfl ?_
      refine zm_cVv (fun a f => mSt (rdA As) T K dr a) d_m_round_20 23 rfl mv_m_makeCluster kl_m_158 (by decide) (fun Q' hq => c_m_makeCluster 1 (by decide) s1 (fun a f h1 => hq _ _ (by simpa [rdA, upF] using h1))) rfl rfl (Nat.le_of_ble_eq_true rfl) ?_; rintro x2 f2 s2
      have t2 : tOk (rdA As) T := tOk_round (tOk_round hT (fun a ha => mkCl_sub ha)) (fun a ha => mkCl_sub ha)
      refine z_aload_n d_m_round_23 24 rfl rfl rfl ?_
      refine z_iconst (v := nI 0) d_m_round_24 25 rfl rfl ?_
      refine z_iload_n d_m_round_25 26 rfl rfl rfl ?_
      refine zm_cV (fun v a f => v = .int (nI (msgN (rdA As) K 0 m)) ∧ mSt (msgA (rdA As) K 0 m) (msgT (rdA As) T K 0 m) (msgK (rdA As) T K 0) dr a) d_m_round_26 29 rfl mv_m_message kl_m_161 (by decide) (fun Q' hq => c_m_message 0 1 m (by decide) rfl hb s2 t2 (fun a f h1 => hq _ _ _ ⟨rfl, h1⟩)) rfl rfl (Nat.le_of_ble_eq_true rfl) ?_; rintro _ x3 f3 ⟨rfl, s3⟩
      refine z_ist2 d_m_round_29 30 rfl rfl ?_
      refine z_iload_n d_m_round_30 31 rfl rfl rfl ?_
      refine z_aload_n d_m_round_31 32 rfl rfl rfl ?_
      refine z_iconst (v := nI 1) d_m_round_32 33 rfl rfl ?_
      refine z_iload_n d_m_round_33 34 rfl rfl rfl ?_
      refine zm_cV (fun v a f => v = .int (nI (msgN (msgA (rdA As) K 0 m) (msgK (rdA As) T K 0) 1 m)) ∧ mSt (msgA (msgA (rdA As) K 0 m) (msgK (rdA As) T K 0) 1 m) (msgT (msgA (rdA As) K 0 m) (msgT (rdA As) T K 0 m) (msgK (rdA As) T K 0) 1 m) (msgK (msgA (rdA As) K 0 m) (msgT (rdA As) T K 0 m) (msgK (rdA As) T K 0) 1) dr a) d_m_round_34 37 rfl mv_m_message kl_m_161 (by decide) (fun Q' hq => c_m_message 1 0 m (by decide) rfl hb s3 (tOk_msg (by decide) t2) (fun a f h1 => hq _ _ _ ⟨rfl, h1⟩)) rfl rfl (Nat.le_of_ble_eq_true rfl) ?_; rintro _ x4 f4 ⟨rfl, s4⟩
      first | refine z_iaddN d_m_round_37 38 rfl ?_ | refine z_iadd d_m_round_37 38 rfl ?_
      exact z_iret d_m_round_38 rfl (Nat.le_refl 0) (Nat.le_refl 0) (hQ2 x4 f4 s4)
    · refine z_iconst (v := -1) d_m_round_11 12 rfl (by decide) ?_
      exact z_iret d_m_round_12 rfl (Nat.le_refl 0) (Nat.le_refl 0) (hQ0 (Or.inr h8))
theorem c_m_held (r : Int32) (h : mSt As T K dr va) (hQ : Q (some (.int (if isRp r = true then nI (As (toN r)).length else -1))) (zmod D o hp va vf)) : Runs l D M_m_held [.ref o, .int r] (zmod D o hp va vf) 0 0 Q := by
  refine Runs.of rfl rfl (Nat.le_of_ble_eq_true rfl) ?_
  refine z_iload_n d_m_held_0 1 rfl rfl rfl ?_
  refine zm_cS1 d_m_held_1 4 rfl ms_m_isRepository kl_m_129 (by decide) (fun Q' h => c_m_isRepository _ h) rfl rfl (Nat.le_of_ble_eq_true rfl) ?_
  refine z_if_eqB (tgt := 16) d_m_held_4 7 rfl rfl (fun h4 => ?_) (fun h4 => ?_)
  · rw [h4] at hQ
    refine z_iconst (v := -1) d_m_held_16 17 rfl (by decide) ?_
    exact z_iret d_m_held_17 rfl (Nat.le_refl 0) (Nat.le_refl 0) hQ
  · rw [h4, if_pos rfl] at hQ
    obtain ⟨q, hq, rfl⟩ := isRp_of h4
    rw [toN_nI (by omega)] at hQ
    refine z_aload_n d_m_held_7 8 rfl rfl rfl ?_
    refine zm_getA 3 d_m_held_8 11 rfl f_m_20 rfl ?_
    refine z_iload_n d_m_held_11 12 rfl rfl rfl ?_
    refine zm_iald d_m_held_12 13 rfl (by decide) rfl (by simp only [zln]; omega) ?_
    rw [(h.1 q hq).2.1]
    refine z_goto (tgt := 17) d_m_held_13 rfl ?_
    exact z_iret d_m_held_17 rfl (Nat.le_refl 0) (Nat.le_refl 0) hQ
theorem c_m_octet (r nm k : Int32) (h : mSt As T K dr va)
    (hQ : Q (some (.int (if isRp r = true then (match lk (As (toN r)) nm with
      | none => -1
      | some bs => if ¬ k < 0 ∧ toN k < bs.length then nI (bs.getD (toN k) 0) else -1) else -1))) (zmod D o hp va vf)) : Runs l D M_m_octet [.ref o, .int r, .int nm, .int k] (zmod D o hp va vf) 0 0 Q := by
  refine Runs.of rfl rfl (Nat.le_of_ble_eq_true rfl) ?_
  refine z_iload_n d_m_octet_0 1 rfl rfl rfl ?_
  refine zm_cS1 d_m_octet_1 4 rfl ms_m_isRepository kl_m_129 (by decide) (fun Q' h => c_m_isRepository _ h) rfl rfl (Nat.le_of_ble_eq_true rfl) ?_
  refine z_if_eqB (tgt := 16) d_m_octet_4 7 rfl rfl (fun h4 => ?_) (fun h4 => ?_)
  · rw [h4] at hQ
    refine z_iconst (v := -1) d_m_octet_16 17 rfl (by decide) ?_
    refine z_ist4 d_m_octet_17 19 rfl rfl ?_
    refine z_iload d_m_octet_19 21 rfl rfl ?_
    refine z_if_lt (tgt := 39) d_m_octet_21 24 rfl rfl (fun h21 => ?_) (fun h21 => ?_)
    · refine z_iconst (v := -1) d_m_octet_39 40 rfl (by decide) ?_
      refine z_goto (tgt := 50) d_m_octet_40 rfl ?_
      exact z_iret d_m_octet_50 rfl (Nat.le_refl 0) (Nat.le_refl 0) hQ
    · exact absurd (by decide) h21
  · rw [h4, if_pos rfl] at hQ
    obtain ⟨q, hq, rfl⟩ := isRp_of h4
    rw [toN_nI (by omega)] at hQ
    have hR := h.1 q hq
    have h32 := hR.1
    obtain ⟨j1, j2⟩ := fnd_lk nm (As q) (32 * q)
    refine z_aload_n d_m_octet_7 8 rfl rfl rfl ?_
    refine z_iload_n d_m_octet_8 9 rfl rfl rfl ?_
    refine z_iload_n d_m_octet_9 10 rfl rfl rfl ?_
    refine zm_cV1 d_m_octet_10 13 rfl mv_m_find kl_m_98 (by decide) (fun Q' h => c_m_find q _ hq hR h) rfl rfl (Nat.le_of_ble_eq_true rfl) ?_
    refine z_goto (tgt := 17) d_m_octet_13 rfl ?_
    refine z_ist4 d_m_octet_17 19 rfl rfl ?_
    refine z_iload d_m_octet_19 21 rfl rfl ?_
    refine z_if_ltO (tgt := 39) d_m_octet_21 24 rfl rfl (fun v h => by obtain ⟨h1, h2, -⟩ := j2 v h; omega) (fun h21 => ?_) (fun w21 h21 => ?_)
    · rw [j1 h21] at hQ
      refine z_iconst (v := -1) d_m_octet_39 40 rfl (by decide) ?_
      refine z_goto (tgt := 50) d_m_octet_40 rfl ?_
      exact z_iret d_m_octet_50 rfl (Nat.le_refl 0) (Nat.le_refl 0) hQ
    · obtain ⟨b1, b2, b3, b4⟩ := j2 _ h21
      rw [b3] at hQ
      rw [h21, show oI (some w21) = nI w21 from rfl]
      obtain ⟨hsl, -⟩ := hR.2.2 (w21 - 32 * q) b2
      rw [show 32 * q + (w21 - 32 * q) = w21 by omega] at hsl
      generalize (As q).getD (w21 - 32 * q) [] = bs at hsl hQ
      have hl := hsl.2.2
      refine z_iload_n d_m_octet_24 25 rfl rfl rfl ?_
      refine z_if_lt (tgt := 39) d_m_octet_25 28 rfl rfl (fun h25 => ?_) (fun h25 => ?_)
      · simp only [h25, not_true_eq_false, false_and, if_false] at hQ
        refine z_iconst (v := -1) d_m_octet_39 40 rfl (by decide) ?_
        refine z_goto (tgt := 50) d_m_octet_40 rfl ?_
        exact z_iret d_m_octet_50 rfl (Nat.le_refl 0) (Nat.le_refl 0) hQ
      · obtain ⟨e, he⟩ := nI_toN h25
        simp only [h25, not_false_eq_true, true_and] at hQ
        generalize toN k = m at e he hQ
        subst e
        refine z_iload_n d_m_octet_28 29 rfl rfl rfl ?_
        refine z_aload_n d_m_octet_29 30 rfl rfl rfl ?_
        refine zm_getA 1 d_m_octet_30 33 rfl f_m_13 rfl ?_
        refine z_iload d_m_octet_33 35 rfl rfl ?_
        refine zm_iald d_m_octet_35 36 rfl (by decide) rfl (by simp only [zln]; omega) ?_
        rw [hsl.2.1]
        refine z_icmp_ltN (tgt := 43) d_m_octet_36 39 rfl rfl (by omega) (by omega) (fun h36 => ?_) (fun h36 => ?_)
        · rw [if_pos h36] at hQ
          refine z_aload_n d_m_octet_43 44 rfl rfl rfl ?_
          refine z_iload d_m_octet_44 46 rfl rfl ?_
          refine z_iload_n d_m_octet_46 47 rfl rfl rfl ?_
          refine zm_cV1 d_m_octet_47 50 rfl mv_m_at kl_m_40 (by decide) (fun Q' h => c_m_at w21 m hsl.1 h36 (by omega) h) rfl rfl (Nat.le_of_ble_eq_true rfl) ?_
          exact z_iret d_m_octet_50 rfl (Nat.le_refl 0) (Nat.le_refl 0) hQ
        · rw [if_neg (by omega)] at hQ
          refine z_iconst (v := -1) d_m_octet_39 40 rfl (by decide) ?_
          refine z_goto (tgt := 50) d_m_octet_40 rfl ?_
          exact z_iret d_m_octet_50 rfl (Nat.le_refl 0) (Nat.le_refl 0) hQ
theorem c_m_kind (r nm : Int32) (h : mSt As T K dr va)
    (hQ : ∀ f, Q (some (.int (if isRp r = true then (match lk (As (toN r)) nm with
      | none => -1
      | some bs => nI (sortM bs)) else -1))) (zmod D o hp va f)) : Runs l D M_m_kind [.ref o, .int r, .int nm] (zmod D o hp va vf) 0 0 Q := by
  refine Runs.of rfl rfl (Nat.le_of_ble_eq_true rfl) ?_
  refine z_iload_n d_m_kind_0 1 rfl rfl rfl ?_
  refine zm_cS1 d_m_kind_1 4 rfl ms_m_isRepository kl_m_129 (by decide) (fun Q' h => c_m_isRepository _ h) rfl rfl (Nat.le_of_ble_eq_true rfl) ?_
  refine z_if_eqB (tgt := 16) d_m_kind_4 7 rfl rfl (fun h4 => ?_) (fun h4 => ?_)
  · rw [h4] at hQ
    refine z_iconst (v := -1) d_m_kind_16 17 rfl (by decide) ?_
    refine z_ist3 d_m_kind_17 18 rfl rfl ?_
    refine z_iload_n d_m_kind_18 19 rfl rfl rfl ?_
    refine z_if_ge (tgt := 26) d_m_kind_19 22 rfl rfl (fun h19 => ?_) (fun h19 => ?_)
    · exact absurd h19 (by decide)
    · refine z_iconst (v := -1) d_m_kind_22 23 rfl (by decide) ?_
      refine z_goto (tgt := 31) d_m_kind_23 rfl ?_
      exact z_iret d_m_kind_31 rfl (Nat.le_refl 0) (Nat.le_refl 0) (hQ vf)
  · rw [h4, if_pos rfl] at hQ
    obtain ⟨q, hq, rfl⟩ := isRp_of h4
    rw [toN_nI (by omega)] at hQ
    have hR := h.1 q hq
    have h32 := hR.1
    obtain ⟨j1, j2⟩ := fnd_lk nm (As q) (32 * q)
    refine z_aload_n d_m_kind_7 8 rfl rfl rfl ?_
    refine z_iload_n d_m_kind_8 9 rfl rfl rfl ?_
    refine z_iload_n d_m_kind_9 10 rfl rfl rfl ?_
    refine zm_cV1 d_m_kind_10 13 rfl mv_m_find kl_m_98 (by decide) (fun Q' h => c_m_find q _ hq hR h) rfl rfl (Nat.le_of_ble_eq_true rfl) ?_
    refine z_goto (tgt := 17) d_m_kind_13 rfl ?_
    refine z_ist3 d_m_kind_17 18 rfl rfl ?_
    refine z_iload_n d_m_kind_18 19 rfl rfl rfl ?_
    refine z_if_geO (tgt := 26) d_m_kind_19 22 rfl rfl (fun v h => by obtain ⟨h1, h2, -⟩ := j2 v h; omega) (fun w19 h19 => ?_) (fun h19 => ?_)
    · obtain ⟨b1, b2, b3, b4⟩ := j2 _ h19
      rw [b3] at hQ
      rw [h19, show oI (some w19) = nI w19 from rfl]
      obtain ⟨hsl, -⟩ := hR.2.2 (w19 - 32 * q) b2
      rw [show 32 * q + (w19 - 32 * q) = w19 by omega] at hsl
      refine z_aload_n d_m_kind_26 27 rfl rfl rfl ?_
      refine z_iload_n d_m_kind_27 28 rfl rfl rfl ?_
      refine zm_cV (fun v a f' => v = .int (nI (sortM ((As q).getD (w19 - 32 * q) []))) ∧ va = a) d_m_kind_28 31 rfl mv_m_sort kl_m_101 (by decide) (fun Q' hq => c_m_sort _ hsl (by omega) (fun f h1 => hq _ _ _ ⟨rfl, rfl⟩)) rfl rfl (Nat.le_of_ble_eq_true rfl) ?_; rintro _ _ f1 ⟨rfl, rfl⟩
      exact z_iret d_m_kind_31 rfl (Nat.le_refl 0) (Nat.le_refl 0) (hQ f1)
    · rw [j1 h19] at hQ
      refine z_iconst (v := -1) d_m_kind_22 23 rfl (by decide) ?_
      refine z_goto (tgt := 31) d_m_kind_23 rfl ?_
      exact z_iret d_m_kind_31 rfl (Nat.le_refl 0) (Nat.le_refl 0) (hQ vf)
theorem c_m_wanted (r : Int32) (h : mSt As T K dr va)
    (hQ : ∀ va' f, mSt As T K dr va' → Q (some (.int (if isRp r = true then nI (wantL (As (toN r)) (T (toN r))).length else -1))) (zmod D o hp va' f)) : Runs l D M_m_wanted [.ref o, .int r] (zmod D o hp va vf) 0 0 Q := by
  refine Runs.of rfl rfl (Nat.le_of_ble_eq_true rfl) ?_
  refine z_iload_n d_m_wanted_0 1 rfl rfl rfl ?_
  refine zm_cS1 d_m_wanted_1 4 rfl ms_m_isRepository kl_m_129 (by decide) (fun Q' h => c_m_isRepository _ h) rfl rfl (Nat.le_of_ble_eq_true rfl) ?_
  refine z_if_neB (tgt := 9) d_m_wanted_4 7 rfl rfl (fun h4 => ?_) (fun h4 => ?_)
  · rw [h4, if_pos rfl] at hQ
    obtain ⟨q, hq, rfl⟩ := isRp_of h4
    rw [toN_nI (by omega)] at hQ
    refine z_aload_n d_m_wanted_9 10 rfl rfl rfl ?_
    refine z_iload_n d_m_wanted_10 11 rfl rfl rfl ?_
    refine zm_cVv (fun a f' => k8 va a ∧ listP a f' (wantL (As q) (T q))) d_m_wanted_11 14 rfl mv_m_listWanted kl_m_155 (by decide) (fun Q' hq' => c_m_listWanted q hq (h.1 q hq) (h.2.1 q hq) (fun a f L h1 h2 h3 h4 => hq' _ _ (by rw [show wantL (As q) (T q) = L from SS_ext (srt_SS _) h4.2.2.1 (fun x => by rw [wantL_mem, h2 x])]; exact ⟨h1, h4⟩))) rfl rfl (Nat.le_of_ble_eq_true rfl) ?_; rintro x2 f2 ⟨i1, i3⟩
    refine z_aload_n d_m_wanted_14 15 rfl rfl rfl ?_
    refine zm_getF 9 d_m_wanted_15 18 rfl f_m_136 rfl ?_; try simp only [pk_us, pk_un, ne_eq, Nat.reduceEqDiff, not_false_eq_true]
    rw [i3.1]
    exact z_iret d_m_wanted_18 rfl (Nat.le_refl 0) (Nat.le_refl 0) (hQ x2 f2 (h.k8 i1))
  · rw [h4] at hQ
    refine z_iconst (v := -1) d_m_wanted_7 8 rfl (by decide) ?_
    exact z_iret d_m_wanted_8 rfl (Nat.le_refl 0) (Nat.le_refl 0) (hQ va vf h)
theorem c_m_loose (r : Int32) (h : mSt As T K dr va)
    (hQ : ∀ va' f, mSt As T K dr va' → Q (some (.int (if isRp r = true then nI (looseL (As (toN r))).length else -1))) (zmod D o hp va' f)) : Runs l D M_m_loose [.ref o, .int r] (zmod D o hp va vf) 0 0 Q := by
  refine Runs.of rfl rfl (Nat.le_of_ble_eq_true rfl) ?_
  refine z_iload_n d_m_loose_0 1 rfl rfl rfl ?_
  refine zm_cS1 d_m_loose_1 4 rfl ms_m_isRepository kl_m_129 (by decide) (fun Q' h => c_m_isRepository _ h) rfl rfl (Nat.le_of_ble_eq_true rfl) ?_
  refine z_if_neB (tgt := 9) d_m_loose_4 7 rfl rfl (fun h4 => ?_) (fun h4 => ?_)
  · rw [h4, if_pos rfl] at hQ
    obtain ⟨q, hq, rfl⟩ := isRp_of h4
    rw [toN_nI (by omega)] at hQ
    refine z_aload_n d_m_loose_9 10 rfl rfl rfl ?_
    refine z_iload_n d_m_loose_10 11 rfl rfl rfl ?_
    refine zm_cVv (fun a f' => k8 va a ∧ listP a f' (looseL (As q))) d_m_loose_11 14 rfl mv_m_listLoose kl_m_149 (by decide) (fun Q' hq' => c_m_listLoose q hq (h.1 q hq) (fun a f L h1 h2 h3 h4 => hq' _ _ (by rw [show looseL (As q) = L from SS_ext (srt_SS _) h4.2.2.1 (fun x => by rw [looseL_mem, h2 x])]; exact ⟨h1, h4⟩))) rfl rfl (Nat.le_of_ble_eq_true rfl) ?_; rintro x2 f2 ⟨i1, i3⟩
    refine z_aload_n d_m_loose_14 15 rfl rfl rfl ?_
    refine zm_getF 9 d_m_loose_15 18 rfl f_m_136 rfl ?_; try simp only [pk_us, pk_un, ne_eq, Nat.reduceEqDiff, not_false_eq_true]
    rw [i3.1]
    exact z_iret d_m_loose_18 rfl (Nat.le_refl 0) (Nat.le_refl 0) (hQ x2 f2 (h.k8 i1))
  · rw [h4] at hQ
    refine z_iconst (v := -1) d_m_loose_7 8 rfl (by decide) ?_
    exact z_iret d_m_loose_8 rfl (Nat.le_refl 0) (Nat.le_refl 0) (hQ va vf h)
theorem c_m_wants (r nm : Int32) (h : mSt As T K dr va)
    (hQ : ∀ va' f, mSt As T K dr va' → Q (some (.int (zb (isRp r && (wantL (As (toN r)) (T (toN r))).any fun x => decide (nI x = nm))))) (zmod D o hp va' f)) : Runs l D M_m_wants [.ref o, .int r, .int nm] (zmod D o hp va vf) 0 0 Q := by
  refine Runs.of rfl rfl (Nat.le_of_ble_eq_true rfl) ?_
  refine z_iload_n d_m_wants_0 1 rfl rfl rfl ?_
  refine zm_cS1 d_m_wants_1 4 rfl ms_m_isRepository kl_m_129 (by decide) (fun Q' h => c_m_isRepository _ h) rfl rfl (Nat.le_of_ble_eq_true rfl) ?_
  refine z_if_neB (tgt := 9) d_m_wants_4 7 rfl rfl (fun h4 => ?_) (fun h4 => ?_)
  · rw [h4, Bool.true_and] at hQ
    obtain ⟨q, hq, rfl⟩ := isRp_of h4
    rw [toN_nI (by omega)] at hQ
    refine z_aload_n d_m_wants_9 10 rfl rfl rfl ?_
    refine z_iload_n d_m_wants_10 11 rfl rfl rfl ?_
    refine zm_cVv (fun a f' => k8 va a ∧ (wantL (As q) (T q)).length < 900 ∧ listP a f' (wantL (As q) (T q))) d_m_wants_11 14 rfl mv_m_listWanted kl_m_155 (by decide) (fun Q' hq' => c_m_listWanted q hq (h.1 q hq) (h.2.1 q hq) (fun a f L h1 h2 h3 h4 => hq' _ _ (by rw [show wantL (As q) (T q) = L from SS_ext (srt_SS _) h4.2.2.1 (fun x => by rw [wantL_mem, h2 x])]; exact ⟨h1, h3, h4⟩))) rfl rfl (Nat.le_of_ble_eq_true rfl) ?_; rintro x2 f2 ⟨i1, i2, i3⟩
    generalize wantL (As q) (T q) = L at *
    refine z_iconst (v := nI 0) d_m_wants_14 15 rfl rfl ?_
    refine z_ist3 d_m_wants_15 16 rfl rfl ?_
    refine z_iconst (v := nI 0) d_m_wants_16 17 rfl rfl ?_
    refine z_ist4 d_m_wants_17 19 rfl rfl ?_
    have loop : ∀ (c j : Nat) (b : Bool), j + c = L.length → (L.any fun x => decide (nI x = nm)) = (b || (L.drop j).any fun x => decide (nI x = nm)) → Z l D M_m_wants 0 0 Q (zmod D o hp x2 f2) 0 0 19 [some (.ref o), some (.int (nI q)), some (.int nm), some (.int (zb b)), some (.int (nI j))] [] := by
      intro c
      induction c with
      | zero =>
        intro j b hj he
        rw [List.drop_eq_nil_of_le (by omega), List.any_nil, Bool.or_false] at he
        refine z_iload d_m_wants_19 21 rfl rfl ?_
        refine z_aload_n d_m_wants_21 22 rfl rfl rfl ?_
        refine zm_getF 9 d_m_wants_22 25 rfl f_m_136 rfl ?_; try simp only [pk_us, pk_un, ne_eq, Nat.reduceEqDiff, not_false_eq_true]
        rw [i3.1]
        refine z_icmp_geN (tgt := 55) d_m_wants_25 28 rfl rfl (by omega) (by omega) (fun h25 => ?_) (fun h25 => ?_)
        · refine z_iload_n d_m_wants_55 56 rfl rfl rfl ?_
          exact z_zretB d_m_wants_56 rfl (Nat.le_refl 0) (Nat.le_refl 0) (by rw [← he]; exact hQ x2 f2 (h.k8 i1))
        · omega
      | succ c ih =>
        intro j b hj he
        rw [drop_consN (by omega), List.any_cons] at he
        refine z_iload d_m_wants_19 21 rfl rfl ?_
        refine z_aload_n d_m_wants_21 22 rfl rfl rfl ?_
        refine zm_getF 9 d_m_wants_22 25 rfl f_m_136 rfl ?_; try simp only [pk_us, pk_un, ne_eq, Nat.reduceEqDiff, not_false_eq_true]
        rw [i3.1]
        refine z_icmp_geN (tgt := 55) d_m_wants_25 28 rfl rfl (by omega) (by omega) (fun h25 => ?_) (fun h25 => ?_)
        · omega
        · have fin : ∀ b' : Bool, b' = (b || decide (nI (L.getD j 0) = nm)) → Z l D M_m_wants 0 0 Q (zmod D o hp x2 f2) 0 0 48 [some (.ref o), some (.int (nI q)), some (.int nm), some (.int (zb b)), some (.int (nI j))] [.int (zb b')] := by
            intro b' hb'
            refine z_ist3 d_m_wants_48 49 rfl rfl ?_
            first | refine z_incN4 d_m_wants_49 52 rfl rfl ?_ | refine z_inc4 d_m_wants_49 52 rfl rfl rfl ?_
            refine z_goto (tgt := 19) d_m_wants_52 rfl ?_
            exact ih (j + 1) b' (by omega) (by rw [he, hb', Bool.or_assoc])
          refine z_iload_n d_m_wants_28 29 rfl rfl rfl ?_
          refine z_if_neB (tgt := 43) d_m_wants_29 32 rfl rfl (fun h29 => ?_) (fun h29 => ?_)
          · refine z_iconst (v := nI 1) d_m_wants_43 44 rfl rfl ?_
            refine z_goto (tgt := 48) d_m_wants_44 rfl ?_
            exact fin true (by rw [h29]; rfl)
          · refine z_aload_n d_m_wants_32 33 rfl rfl rfl ?_
            refine zm_getA 8 d_m_wants_33 36 rfl f_m_35 rfl ?_
            refine z_iload d_m_wants_36 38 rfl rfl ?_
            refine zm_iald d_m_wants_38 39 rfl (by decide) rfl (by simp only [zln]; omega) ?_
            rw [(i3.2.2.2 j (by omega)).1]
            refine z_iload_n d_m_wants_39 40 rfl rfl rfl ?_
            refine z_icmp_ne (tgt := 47) d_m_wants_40 43 rfl rfl (fun h40 => ?_) (fun h40 => ?_)
            · refine z_iconst (v := nI 0) d_m_wants_47 48 rfl rfl ?_
              exact fin false (by rw [h29, decide_eq_false h40]; rfl)
            · refine z_iconst (v := nI 1) d_m_wants_43 44 rfl rfl ?_
              refine z_goto (tgt := 48) d_m_wants_44 rfl ?_
              exact fin true (by rw [decide_eq_true h40, Bool.or_true])
    exact loop L.length 0 false (by omega) (by rw [Bool.false_or]; rfl)
  · rw [h4, Bool.false_and] at hQ
    refine z_iconst (v := nI 0) d_m_wants_7 8 rfl rfl ?_
    exact z_zretB (b := false) d_m_wants_8 rfl (Nat.le_refl 0) (Nat.le_refl 0) (hQ va vf h)
end M16
