/-! The reference: check-ins, writing. Own work. -/
/-- only slot s has changed -/
def sk (s : Nat) (va va' : Nat → Nat → Int32) : Prop := (∀ j, 2 ≤ j → va' j = va j) ∧ (∀ t, t ≠ s → va' 1 t = va 1 t) ∧ ∀ i, (i < 240 * s ∨ 240 * s + 240 ≤ i) → va' 0 i = va 0 i
theorem sk.rf (s : Nat) (va : Nat → Nat → Int32) : sk s va va := ⟨fun _ _ => rfl, fun _ _ => rfl, fun _ _ => rfl⟩
theorem sk.trans {s : Nat} {a b c : Nat → Nat → Int32} (h : sk s a b) (g : sk s b c) : sk s a c := ⟨fun j hj => (g.1 j hj).trans (h.1 j hj), fun t ht => (g.2.1 t ht).trans (h.2.1 t ht), fun i hi => (g.2.2 i hi).trans (h.2.2 i hi)⟩
theorem sk.slot {s t : Nat} {va va' : Nat → Nat → Int32} {bs : List Nat} (h : sk s va va') (ht : t ≠ s) (hr : slotP va t bs) : slotP va' t bs := by
  refine ⟨fun k hk => ?_, by rw [h.2.1 t ht]; exact hr.2.1, hr.2.2⟩
  have hl := hr.2.2
  rw [h.2.2 _ (by omega)]
  exact hr.1 k hk
theorem sk.rep {s r : Nat} {va va' : Nat → Nat → Int32} {As : List (List Nat)} (h : sk s va va') (hs : 64 ≤ s) (hr2 : r < 2) (hr : repP va r As) : repP va' r As := by
  have h32 := hr.1
  refine ⟨hr.1, by rw [h.1 3 (by decide)]; exact hr.2.1, fun i hi => ⟨h.slot (by omega) (hr.2.2 i hi).1, by rw [h.1 2 (by decide)]; exact (hr.2.2 i hi).2⟩⟩
theorem wr_ok {va : Nat → Nat → Int32} {s w : Nat} {bs : List Nat} (hr : slotP va s bs) (hl : bs.length < 240) (hw : w < 256) :
    sk s va (va_up (va_up va 0 (upd (va 0) (240 * s + bs.length) (sb_b w))) 1 (upd (va 1) s (nI (bs.length + 1)))) ∧ slotP (va_up (va_up va 0 (upd (va 0) (240 * s + bs.length) (sb_b w))) 1 (upd (va 1) s (nI (bs.length + 1)))) s (bs ++ [w]) := by
  refine ⟨⟨fun j hj => ?_, fun t ht => ?_, fun i hi => ?_⟩, fun k hk => ?_, ?_, ?_⟩
  · simp only [va_up]
    rw [if_neg (by omega), if_neg (by omega)]
  · show upd (va 1) s _ t = va 1 t
    exact pk_un ht
  · show upd (va 0) _ _ i = va 0 i
    exact pk_un (by omega)
  · show _ ∧ upd (va 0) (240 * s + bs.length) (sb_b w) (240 * s + k) = _
    simp only [List.length_append, List.length_singleton] at hk
    by_cases h : k = bs.length
    · subst h
      rw [pk_us]
      simp [hw]
    · rw [pk_un (by omega)]
      have := hr.1 k (by omega)
      rw [show (bs ++ [w]).getD k 0 = bs.getD k 0 by simp [List.getElem?_append_left (show k < bs.length by omega)]]
      exact this
  · simp [va_up, upd]
  · simp
    omega
/-- the six letters of a name -/
def nmB (n : Nat) : List Nat := [97 + n / 1048576 % 16, 97 + n / 65536 % 16, 97 + n / 4096 % 16, 97 + n / 256 % 16, 97 + n / 16 % 16, 97 + n % 16]
section M9
variable {l : Launch} {D : zD} {hp : zH} {o : Nat} {va : Nat → Nat → Int32} {vf : Nat → Int32} {Q : Option Value → zH → Prop}
/-- is the text a check-in beside these artifacts -/
def isCI (As : List (List Nat)) (bs : List Nat) : Bool := decide (sortM bs = 1) && (match filesL As (lns bs) 7 with
  | none => false
  | some d => hasL 82 (nI d) (lns bs))
theorem filesL_lt (As : List (List Nat)) : ∀ (t : List (Option CV)) (d e : Nat), d < 16777213 → filesL As t d = some e → e < 16777213 := by
  intro t
  induction t with
  | nil => intro d e hd h; simp [filesL] at h; omega
  | cons x t ih =>
    intro d e hd h
    cases x with
    | none => exact ih d e hd h
    | some c =>
      rw [filesL] at h
      split at h
      · split at h
        · cases h
        · exact ih _ e (dg_lt hd _) h
      · exact ih d e hd h
theorem sortM_le (bs : List Nat) : sortM bs ≤ 3 := by
  unfold sortM
  split
  · omega
  · unfold sortC
    (repeat' split) <;> omega
theorem c_m_isCheckIn (r s : Nat) {As : List (List Nat)} {bs : List Nat} (hr2 : r < 2) (hR : repP va r As) (hr : slotP va s bs) (hs : s < 66)
    (hQ : ∀ f : Nat → Int32, f 9 = vf 9 → Q (some (.int (zb (isCI As bs)))) (zmod D o hp va f)) : Runs l D M_m_isCheckIn [.ref o, .int (nI r), .int (nI s)] (zmod D o hp va vf) 0 0 Q := by
  refine Runs.of rfl rfl (Nat.le_of_ble_eq_true rfl) ?_
  have h3 := sortM_le bs
  refine z_aload_n d_m_isCheckIn_0 1 rfl rfl rfl ?_
  refine z_iload_n d_m_isCheckIn_1 2 rfl rfl rfl ?_
  refine zm_cV (fun v a f => v = .int (nI (sortM bs)) ∧ va = a ∧ f 9 = vf 9) d_m_isCheckIn_2 5 rfl mv_m_sort kl_m_101 (by decide) (fun Q' h => c_m_sort s hr hs (fun f h1 => h _ _ _ ⟨rfl, rfl, h1⟩)) rfl rfl (Nat.le_of_ble_eq_true rfl) ?_; rintro _ _ f ⟨rfl, rfl, i1⟩
  refine z_iconst (v := nI 1) d_m_isCheckIn_5 6 rfl rfl ?_
  refine z_icmp_eqN (tgt := 11) d_m_isCheckIn_6 9 rfl rfl (by omega) (by omega) (fun h6 => ?_) (fun h6 => ?_)
  · refine z_aload_n d_m_isCheckIn_11 12 rfl rfl rfl ?_
    refine z_iload_n d_m_isCheckIn_12 13 rfl rfl rfl ?_
    refine z_iload_n d_m_isCheckIn_13 14 rfl rfl rfl ?_
    refine zm_cV (fun v a f' => v = .int (oI (filesL As (lns bs) 7)) ∧ va = a ∧ f' 9 = f 9) d_m_isCheckIn_14 17 rfl mv_m_filesOf kl_m_105 (by decide) (fun Q' h => c_m_filesOf r s hr2 hR hr hs (fun f h1 => h _ _ _ ⟨rfl, rfl, h1⟩)) rfl rfl (Nat.le_of_ble_eq_true rfl) ?_; rintro _ _ f2 ⟨rfl, rfl, i2⟩
    refine z_ist3 d_m_isCheckIn_17 18 rfl rfl ?_
    refine z_iload_n d_m_isCheckIn_18 19 rfl rfl rfl ?_
    refine z_if_ltO (tgt := 37) d_m_isCheckIn_19 22 rfl rfl (fun v h => by have := filesL_lt As _ _ _ (by decide) h; omega) (fun h19 => ?_) (fun w19 h19 => ?_)
    · have e : isCI As bs = false := by simp [isCI, h19]
      have q := hQ f2 (i2.trans i1)
      rw [e] at q
      refine z_iconst (v := nI 0) d_m_isCheckIn_37 38 rfl rfl ?_
      exact z_zretB (b := false) d_m_isCheckIn_38 rfl (Nat.le_refl 0) (Nat.le_refl 0) q
    · have e : isCI As bs = hasL 82 (nI w19) (lns bs) := by simp [isCI, h19, h6]
      rw [h19]
      refine z_aload_n d_m_isCheckIn_22 23 rfl rfl rfl ?_
      refine z_iload_n d_m_isCheckIn_23 24 rfl rfl rfl ?_
      refine z_bipush (v := nI 82) d_m_isCheckIn_24 26 rfl rfl ?_
      refine z_iload_n d_m_isCheckIn_26 27 rfl rfl rfl ?_
      refine zm_cV (fun v a f' => v = .int (zb (hasL 82 (nI w19) (lns bs))) ∧ va = a ∧ f' 9 = f2 9) d_m_isCheckIn_27 30 rfl mv_m_has kl_m_108 (by decide) (fun Q' h => c_m_has s 82 _ hr hs (by decide) (fun f h1 => h _ _ _ ⟨rfl, rfl, h1⟩)) rfl rfl (Nat.le_of_ble_eq_true rfl) ?_; rintro _ _ f3 ⟨rfl, rfl, i3⟩
      have q := hQ f3 (i3.trans (i2.trans i1))
      rw [e] at q
      refine z_if_eqB (tgt := 37) d_m_isCheckIn_30 33 rfl rfl (fun h30 => ?_) (fun h30 => ?_)
      · refine z_iconst (v := nI 0) d_m_isCheckIn_37 38 rfl rfl ?_
        exact z_zretB (b := false) d_m_isCheckIn_38 rfl (Nat.le_refl 0) (Nat.le_refl 0) (by rw [h30] at q; exact q)
      · refine z_iconst (v := nI 1) d_m_isCheckIn_33 34 rfl rfl ?_
        refine z_goto (tgt := 38) d_m_isCheckIn_34 rfl ?_
        exact z_zretB (b := true) d_m_isCheckIn_38 rfl (Nat.le_refl 0) (Nat.le_refl 0) (by rw [h30] at q; exact q)
  · have e : isCI As bs = false := by simp [isCI, h6]
    have q := hQ f i1
    rw [e] at q
    refine z_iconst (v := nI 0) d_m_isCheckIn_9 10 rfl rfl ?_
    exact z_zretB (b := false) d_m_isCheckIn_10 rfl (Nat.le_refl 0) (Nat.le_refl 0) q
theorem c_m_write (s w : Nat) {bs : List Nat} (hr : slotP va s bs) (hs : s < 66) (hl : bs.length < 240) (hw : w < 256)
    (hQ : ∀ va' : Nat → Nat → Int32, sk s va va' → slotP va' s (bs ++ [w]) → Q none (zmod D o hp va' vf)) : Runs l D M_m_write [.ref o, .int (nI s), .int (nI w)] (zmod D o hp va vf) 0 0 Q := by
  refine Runs.of rfl rfl (Nat.le_of_ble_eq_true rfl) ?_
  refine z_aload_n d_m_write_0 1 rfl rfl rfl ?_
  refine zm_getA 0 d_m_write_1 4 rfl f_m_7 rfl ?_
  refine z_sipush (v := nI 240) d_m_write_4 7 rfl rfl ?_
  refine z_iload_n d_m_write_7 8 rfl rfl rfl ?_
  first | refine z_imulN d_m_write_8 9 rfl ?_ | refine z_imul d_m_write_8 9 rfl ?_
  refine z_aload_n d_m_write_9 10 rfl rfl rfl ?_
  refine zm_getA 1 d_m_write_10 13 rfl f_m_13 rfl ?_
  refine z_iload_n d_m_write_13 14 rfl rfl rfl ?_
  refine zm_iald d_m_write_14 15 rfl (by decide) rfl (by simp only [zln]; omega) ?_
  rw [hr.2.1]
  first | refine z_iaddN d_m_write_15 16 rfl ?_ | refine z_iadd d_m_write_15 16 rfl ?_
  refine z_iload_n d_m_write_16 17 rfl rfl rfl ?_
  refine z_i2b d_m_write_17 18 rfl rfl ?_
  refine zm_bast d_m_write_18 19 rfl (by omega) ?_
  rw [pk_vb]
  refine z_aload_n d_m_write_19 20 rfl rfl rfl ?_
  refine zm_getA 1 d_m_write_20 23 rfl f_m_13 rfl ?_
  refine z_iload_n d_m_write_23 24 rfl rfl rfl ?_
  refine z_dup2 d_m_write_24 25 rfl rfl rfl ?_
  refine zm_iald d_m_write_25 26 rfl (by decide) rfl (by simp only [zln]; omega) ?_
  rw [show va_up va 0 (upd (va 0) (240 * s + bs.length) (nI w).toInt8.toInt32) 1 s = nI bs.length by rw [← hr.2.1]; rfl]
  refine z_iconst (v := nI 1) d_m_write_26 27 rfl rfl ?_
  first | refine z_iaddN d_m_write_27 28 rfl ?_ | refine z_iadd d_m_write_27 28 rfl ?_
  refine zm_iast d_m_write_28 29 rfl (by decide) rfl (by simp only [zln]; omega) ?_
  obtain ⟨h1, h2⟩ := wr_ok hr hl hw
  exact z_vret d_m_write_29 rfl (Nat.le_refl 0) (Nat.le_refl 0) (hQ _ h1 h2)
theorem c_m_writeName (s n : Nat) {bs : List Nat} (hr : slotP va s bs) (hs : s < 66) (hl : bs.length + 6 ≤ 240) (hn : n < 16777216)
    (hQ : ∀ va' : Nat → Nat → Int32, sk s va va' → slotP va' s (bs ++ nmB n) → Q none (zmod D o hp va' vf)) : Runs l D M_m_writeName [.ref o, .int (nI s), .int (nI n)] (zmod D o hp va vf) 0 0 Q := by
  refine Runs.of rfl rfl (Nat.le_of_ble_eq_true rfl) ?_
  refine z_bipush (v := nI 20) d_m_writeName_0 2 rfl rfl ?_
  refine z_ist3 d_m_writeName_2 3 rfl rfl ?_
  have step : ∀ (K K' sh : Int32) (p : Nat) (x : Nat → Nat → Int32) (b : List Nat), ¬ K < 0 → K + Int32.ofInt (-4) = K' → ((K &&& 31).toBitVec.smod 32).toNat = p → b.length < 240 → slotP x s b → (∀ x', sk s x x' → slotP x' s (b ++ [97 + n / 2 ^ p % 16]) → Z l D M_m_writeName 0 0 Q (zmod D o hp x' vf) 0 0 3 [some (.ref o), some (.int (nI s)), some (.int (nI n)), some (.int K')] []) → Z l D M_m_writeName 0 0 Q (zmod D o hp x vf) 0 0 3 [some (.ref o), some (.int (nI s)), some (.int (nI n)), some (.int K)] [] := by
    intro K K' sh p x b hK hK' hp9 hb hx go
    refine z_iload_n d_m_writeName_3 4 rfl rfl rfl ?_
    refine z_if_lt (tgt := 27) d_m_writeName_4 7 rfl rfl (fun h4 => ?_) (fun h4 => ?_)
    · exact absurd h4 hK
    · refine z_aload_n d_m_writeName_7 8 rfl rfl rfl ?_
      refine z_iload_n d_m_writeName_8 9 rfl rfl rfl ?_
      refine z_bipush (v := nI 97) d_m_writeName_9 11 rfl rfl ?_
      refine z_iload_n d_m_writeName_11 12 rfl rfl rfl ?_
      refine z_iload_n d_m_writeName_12 13 rfl rfl rfl ?_
      refine z_ishr d_m_writeName_13 14 rfl ?_
      rw [pk_shrN (by omega) (K &&& 31) p hp9]
      refine z_bipush (v := nI 15) d_m_writeName_14 16 rfl rfl ?_
      refine z_iand d_m_writeName_16 17 rfl ?_
      have hdl : n / 2 ^ p ≤ n := Nat.div_le_self _ _
      rw [pk_andN (n := n / 2 ^ p) (by omega) (m := nI 15) 4 (by decide)]
      first | refine z_iaddN d_m_writeName_17 18 rfl ?_ | refine z_iadd d_m_writeName_17 18 rfl ?_
      refine zm_cVv (fun a f => f = vf ∧ sk s x a ∧ slotP a s (b ++ [97 + n / 2 ^ p % 2 ^ 4])) d_m_writeName_18 21 rfl mv_m_write kl_m_111 (by decide) (fun Q' h => c_m_write s _ hx hs hb (by omega) (fun a h1 h2 => h _ _ ⟨rfl, h1, h2⟩)) rfl rfl (Nat.le_of_ble_eq_true rfl) ?_; rintro a _ ⟨rfl, i1, i2⟩
      refine z_inc3 d_m_writeName_21 24 rfl hK' rfl ?_
      refine z_goto (tgt := 3) d_m_writeName_24 rfl ?_
      exact go a i1 i2
  refine step (nI 20) (nI 16) 0 20 va bs (by decide) (by decide) (by decide) (by omega) hr (fun x1 k1 s1 => ?_)
  refine step (nI 16) (nI 12) 0 16 x1 _ (by decide) (by decide) (by decide) (by simp; omega) s1 (fun x2 k2 s2 => ?_)
  refine step (nI 12) (nI 8) 0 12 x2 _ (by decide) (by decide) (by decide) (by simp; omega) s2 (fun x3 k3 s3 => ?_)
  refine step (nI 8) (nI 4) 0 8 x3 _ (by decide) (by decide) (by decide) (by simp; omega) s3 (fun x4 k4 s4 => ?_)
  refine step (nI 4) (nI 0) 0 4 x4 _ (by decide) (by decide) (by decide) (by simp; omega) s4 (fun x5 k5 s5 => ?_)
  refine step (nI 0) (-4) 0 0 x5 _ (by decide) (by decide) (by decide) (by simp; omega) s5 (fun x6 k6 s6 => ?_)
  refine z_iload_n d_m_writeName_3 4 rfl rfl rfl ?_
  refine z_if_lt (tgt := 27) d_m_writeName_4 7 rfl rfl (fun h4 => ?_) (fun h4 => ?_)
  · exact z_vret d_m_writeName_27 rfl (Nat.le_refl 0) (Nat.le_refl 0) (hQ x6 (((((k1.trans k2).trans k3).trans k4).trans k5).trans k6) (by simpa [nmB] using s6))
  · exact absurd (by decide) h4
end M9
