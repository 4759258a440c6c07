/-! The class: cards are read. Own work. -/
theorem zset_zset (h : zH) (a : Nat) (e e' : va_E) : zset (zset h a e) a e' = zset h a e' := by
  funext q
  unfold zset
  split <;> rfl
theorem cb_eq : ∀ w, w < 256 → ∀ c, c < 128 → (sb_b w = nI c ↔ w = c) := by
  intro w hw c hc
  constructor
  · intro e
    have h1 := (sb_byte w hw).1
    rw [e] at h1
    have h2 : nI c &&& 255 = nI c := by
      have := pk_andN (n := c) (by omega) (m := 255) 8 (by decide)
      rw [this]
      congr 1
      omega
    rw [h2] at h1
    exact ((nI_eq (by omega) (by omega)).1 h1).symm
  · intro e
    subst e
    revert hc
    revert w
    decide +kernel
theorem cb_dg : ∀ w, w < 256 → dgI (sb_b w - nI 48) = isDg w := by decide +kernel
theorem cb_dv : ∀ w, w < 256 → isDg w = true → sb_b w - nI 48 = nI (w - 48) ∧ sb_b w = nI w := by decide +kernel
theorem cb_nm : ∀ w, w < 256 → ((¬ sb_b w - nI 97 < 0 ∧ sb_b w - nI 97 ≤ nI 15) ↔ (97 ≤ w ∧ w ≤ 112)) := by decide +kernel
theorem cb_nv : ∀ w, w < 256 → (97 ≤ w ∧ w ≤ 112) → sb_b w - nI 97 = nI (w - 97) := by decide +kernel
theorem zb_fit (b : Bool) : fits .boolean (.int (zb b)) = true := by cases b <;> decide
/-- a card's object -/
def cObj (c : CV) : va_E := .inr (4, [.int (nI c.1), .int (if c.1 = 70 ∨ c.1 = 84 then nI c.2.1 else -1), .int (zb c.2.2.1), .int (if c.1 = 68 then nI c.2.2.2.2.2 else oI c.2.2.2.1), .int (oI c.2.2.2.2.1)])
section C7
variable {l : Launch} {D : zD} {M : zM} {h : zH} {b N : Nat} {f : Nat → Int32} {Q : Option Value → zH → Prop} {bs : List Nat}
theorem c_C_init (q : Nat) (c d : Int32) (p : Bool) (x y : Int32) (hq : h q = some (.inr (4, [.int 0, .int 0, .int 0, .int 0, .int 0]))) (hQ : Q none (zset h q (.inr (4, [.int c, .int d, .int (zb p), .int x, .int y])))) : Runs l D M_C_init [.ref q, .int c, .int d, .int (zb p), .int x, .int y] h 0 0 Q := by
  refine Runs.of rfl rfl (Nat.le_of_ble_eq_true rfl) ?_
  refine z_aload_n d_C_init_0 1 rfl rfl rfl ?_
  refine z_objInit d_C_init_1 4 rfl kl9_C_3 oi_i oi_c (by decide) (Nat.le_of_ble_eq_true rfl) ?_
  refine z_aload_n d_C_init_4 5 rfl rfl rfl ?_
  refine z_iload_n d_C_init_5 6 rfl rfl rfl ?_
  refine z_put d_C_init_6 9 rfl p_C_9 hq rfl rfl (Nat.le_of_ble_eq_true rfl) rfl ?_; dsimp only [List.set]
  refine z_aload_n d_C_init_9 10 rfl rfl rfl ?_
  refine z_iload_n d_C_init_10 11 rfl rfl rfl ?_
  refine z_put d_C_init_11 14 rfl p_C_15 (zset_self _ _ _) rfl rfl (Nat.le_of_ble_eq_true rfl) rfl ?_; dsimp only [List.set]
  rw [zset_zset]
  refine z_aload_n d_C_init_14 15 rfl rfl rfl ?_
  refine z_iload_n d_C_init_15 16 rfl rfl rfl ?_
  refine z_put d_C_init_16 19 rfl p_C_18 (zset_self _ _ _) (zb_nar p) (zb_fit p) (Nat.le_of_ble_eq_true rfl) rfl ?_; dsimp only [List.set]
  rw [zset_zset]
  refine z_aload_n d_C_init_19 20 rfl rfl rfl ?_
  refine z_iload d_C_init_20 22 rfl rfl ?_
  refine z_put d_C_init_22 25 rfl p_C_22 (zset_self _ _ _) rfl rfl (Nat.le_of_ble_eq_true rfl) rfl ?_; dsimp only [List.set]
  rw [zset_zset]
  refine z_aload_n d_C_init_25 26 rfl rfl rfl ?_
  refine z_iload d_C_init_26 28 rfl rfl ?_
  refine z_put d_C_init_28 31 rfl p_C_25 (zset_self _ _ _) rfl rfl (Nat.le_of_ble_eq_true rfl) rfl ?_; dsimp only [List.set]
  rw [zset_zset]
  exact z_vret d_C_init_31 rfl (Nat.le_refl 0) (Nat.le_refl 0) hQ
theorem c_C_readName (k : Nat) (hb : h b = some (.inl (D.2 0, N, .inl f))) (hf : byP f bs) (hk : k + 6 ≤ bs.length) (hN : bs.length ≤ N) (hN2 : N < 2 ^ 30) (hQ : Q (some (.int (oI (nm6 (gB bs 0) k)))) h) : Runs l D M_C_readName [.ref b, .int (nI k)] h 0 0 Q := by
  refine Runs.of rfl rfl (Nat.le_of_ble_eq_true rfl) ?_
  refine z_iconst (v := nI 0) d_C_readName_0 1 rfl rfl ?_
  refine z_ist2 d_C_readName_1 2 rfl rfl ?_
  refine z_iload_n d_C_readName_2 3 rfl rfl rfl ?_
  refine z_ist3 d_C_readName_3 4 rfl rfl ?_
  have loop : ∀ (c j v : Nat) (z : Option Value), j + c = k + 6 → c ≤ 6 → v < 16 ^ (6 - c) → Q (some (.int (oI (nmF (gB bs 0) j c v)))) h → Z l D M_C_readName 0 0 Q h 0 0 4 [some (.ref b), some (.int (nI k)), some (.int (nI v)), some (.int (nI j)), z] [] := by
    intro c
    induction c with
    | zero =>
      intro j v z hj hc hv hQ
      refine z_iload_n d_C_readName_4 5 rfl rfl rfl ?_
      refine z_iload_n d_C_readName_5 6 rfl rfl rfl ?_
      refine z_bipush (v := nI 6) d_C_readName_6 8 rfl rfl ?_
      first | refine z_iaddN d_C_readName_8 9 rfl ?_ | refine z_iadd d_C_readName_8 9 rfl ?_
      refine z_icmp_geN (tgt := 48) d_C_readName_9 12 rfl rfl (by omega) (by omega) (fun h9 => ?_) (fun h9 => ?_)
      · refine z_iload_n d_C_readName_48 49 rfl rfl rfl ?_
        exact z_iret d_C_readName_49 rfl (Nat.le_refl 0) (Nat.le_refl 0) hQ
      · omega
    | succ c ih =>
      intro j v z hj hc hv hQ
      have hv2 : 16 ^ (6 - c) = 16 ^ (6 - (c + 1)) * 16 := by rw [← Nat.pow_succ]; congr 1; omega
      have hv3 : 16 ^ (6 - c) ≤ 16 ^ 6 := Nat.pow_le_pow_right (by decide) (by omega)
      obtain ⟨hw, hfj⟩ := hf j (by omega)
      have e : gB bs 0 j = bs.getD j 0 := by simp [gB]
      rw [nmF, e] at hQ
      refine z_iload_n d_C_readName_4 5 rfl rfl rfl ?_
      refine z_iload_n d_C_readName_5 6 rfl rfl rfl ?_
      refine z_bipush (v := nI 6) d_C_readName_6 8 rfl rfl ?_
      first | refine z_iaddN d_C_readName_8 9 rfl ?_ | refine z_iadd d_C_readName_8 9 rfl ?_
      refine z_icmp_geN (tgt := 48) d_C_readName_9 12 rfl rfl (by omega) (by omega) (fun h9 => ?_) (fun h9 => ?_)
      · omega
      · refine z_aload_n d_C_readName_12 13 rfl rfl rfl ?_
        refine z_iload_n d_C_readName_13 14 rfl rfl rfl ?_
        refine z_baldN d_C_readName_14 15 rfl (by assumption) (by omega) (by omega) ?_
        rw [hfj]
        refine z_bipush (v := nI 97) d_C_readName_15 17 rfl rfl ?_
        refine z_isub d_C_readName_17 18 rfl ?_
        refine z_ist4 d_C_readName_18 20 rfl rfl ?_
        refine z_iload d_C_readName_20 22 rfl rfl ?_
        have hiff := cb_nm _ hw
        by_cases hr : 97 ≤ bs.getD j 0 ∧ bs.getD j 0 ≤ 112
        · rw [if_pos hr] at hQ
          refine z_if_lt (tgt := 32) d_C_readName_22 25 rfl rfl (fun h22 => ?_) (fun h22 => ?_)
          · exact absurd h22 (hiff.2 hr).1
          · refine z_iload d_C_readName_25 27 rfl rfl ?_
            refine z_bipush (v := nI 15) d_C_readName_27 29 rfl rfl ?_
            refine z_icmp_le (tgt := 34) d_C_readName_29 32 rfl rfl (fun h29 => ?_) (fun h29 => ?_)
            · rw [cb_nv _ hw hr]
              refine z_bipush (v := nI 16) d_C_readName_34 36 rfl rfl ?_
              refine z_iload_n d_C_readName_36 37 rfl rfl rfl ?_
              first | refine z_imulN d_C_readName_37 38 rfl ?_ | refine z_imul d_C_readName_37 38 rfl ?_
              refine z_iload d_C_readName_38 40 rfl rfl ?_
              first | refine z_iaddN d_C_readName_40 41 rfl ?_ | refine z_iadd d_C_readName_40 41 rfl ?_
              refine z_ist2 d_C_readName_41 42 rfl rfl ?_
              first | refine z_incN3 d_C_readName_42 45 rfl rfl ?_ | refine z_inc3 d_C_readName_42 45 rfl rfl rfl ?_
              refine z_goto (tgt := 4) d_C_readName_45 rfl ?_
              exact ih (j + 1) (16 * v + (bs.getD j 0 - 97)) _ (by omega) (by omega) (by omega) hQ
            · exact absurd (hiff.2 hr).2 h29
        · rw [if_neg hr] at hQ
          refine z_if_lt (tgt := 32) d_C_readName_22 25 rfl rfl (fun h22 => ?_) (fun h22 => ?_)
          · refine z_iconst (v := oI none) d_C_readName_32 33 rfl (by decide) ?_
            exact z_iret d_C_readName_33 rfl (Nat.le_refl 0) (Nat.le_refl 0) hQ
          · refine z_iload d_C_readName_25 27 rfl rfl ?_
            refine z_bipush (v := nI 15) d_C_readName_27 29 rfl rfl ?_
            refine z_icmp_le (tgt := 34) d_C_readName_29 32 rfl rfl (fun h29 => ?_) (fun h29 => ?_)
            · exact absurd (hiff.1 ⟨h22, h29⟩) hr
            · refine z_iconst (v := oI none) d_C_readName_32 33 rfl (by decide) ?_
              exact z_iret d_C_readName_33 rfl (Nat.le_refl 0) (Nat.le_refl 0) hQ
  exact loop 6 k 0 none (by omega) (by omega) (by decide) hQ
theorem c_C_readNameG (k i : Nat) (hb : h b = some (.inl (D.2 0, N, .inl f))) (hf : byP f bs) (hk : k + i + 6 ≤ bs.length) (hN : bs.length ≤ N) (hN2 : N < 2 ^ 30) (hQ : Q (some (.int (oI (nm6 (gB bs k) i)))) h) : Runs l D M_C_readName [.ref b, .int (nI (k + i))] h 0 0 Q :=
  c_C_readName (k + i) hb hf hk hN hN2 (by rw [nm6, nmF_gB]; exact hQ)
theorem oI_m1 {r : Option Nat} (hr : ∀ v, r = some v → v < 2 ^ 31) : oI r = -1 ↔ r = none := by
  cases r with
  | none => exact ⟨fun _ => rfl, fun _ => rfl⟩
  | some v => exact ⟨fun e => absurd (show oI (some v) < 0 by rw [e]; decide) (oI_pos (hr v rfl)), fun e => by cases e⟩
/-- one name behind the letter: the line is k .. k + n - 1 -/
theorem c_C_readOneName (c k n : Nat) (hb : h b = some (.inl (D.2 0, N, .inl f))) (hf : byP f bs) (hn : 3 ≤ n) (hk : k + n ≤ bs.length) (hN : bs.length ≤ N) (hN2 : N < 2 ^ 30)
    (hQ0 : (n ≠ 8 ∨ nm6 (gB bs k) 2 = none) → Q (some .null) h) (hQ : ∀ v q, n = 8 → nm6 (gB bs k) 2 = some v → h q = none → Q (some (.ref q)) (zset h q (.inr (4, [.int (nI c), .int (-1), .int (zb false), .int (nI v), .int (-1)])))) :
    Runs l D M_C_readOneName [.int (nI c), .ref b, .int (nI (k + 2)), .int (nI (k + n))] h 1 5 Q := by
  refine Runs.of rfl rfl (Nat.le_of_ble_eq_true rfl) ?_
  refine z_iload_n d_C_readOneName_0 1 rfl rfl rfl ?_
  refine z_iload_n d_C_readOneName_1 2 rfl rfl rfl ?_
  refine z_isubN d_C_readOneName_2 3 rfl (by omega) ?_
  refine z_bipush (v := nI 6) d_C_readOneName_3 5 rfl rfl ?_
  refine z_icmp_eqN (tgt := 10) d_C_readOneName_5 8 rfl rfl (by omega) (by omega) (fun h5 => ?_) (fun h5 => ?_)
  · have hn8 : n = 8 := by omega
    refine z_aload_n d_C_readOneName_10 11 rfl rfl rfl ?_
    refine z_iload_n d_C_readOneName_11 12 rfl rfl rfl ?_
    refine z_cS1 d_C_readOneName_12 15 rfl ms_C_readName kl_C_52 (by decide) 0 0 rfl rfl (by decide) (by decide) (fun Q' w => c_C_readNameG k 2 hb hf (by omega) hN hN2 w) rfl rfl (Nat.le_of_ble_eq_true rfl) ?_
    refine z_ist4 d_C_readOneName_15 17 rfl rfl ?_
    refine z_iload d_C_readOneName_17 19 rfl rfl ?_
    refine z_iconst (v := -1) d_C_readOneName_19 20 rfl (by decide) ?_
    refine z_icmp_eq (tgt := 39) d_C_readOneName_20 23 rfl rfl (fun h20 => ?_) (fun h20 => ?_)
    · have := (oI_m1 (fun v hv => by have := nm6_lt hv; omega)).1 h20
      refine z_null d_C_readOneName_39 40 rfl ?_
      exact z_aret (r := none) d_C_readOneName_40 rfl (Or.inl ⟨_, rfl⟩) (by decide) (by decide) (hQ0 (Or.inr this))
    · cases hv : nm6 (gB bs k) 2 with
      | none => rw [hv] at h20; exact absurd rfl h20
      | some v =>
        rw [show oI (some v) = nI v from rfl]
        refine z_new d_C_readOneName_23 26 rfl nw_C_10 (by decide) (by decide) (fun q hq => ?_)
        refine z_dup d_C_readOneName_26 27 rfl rfl ?_
        refine z_iload_n d_C_readOneName_27 28 rfl rfl rfl ?_
        refine z_iconst (v := -1) d_C_readOneName_28 29 rfl (by decide) ?_
        refine z_iconst (v := zb false) d_C_readOneName_29 30 rfl (by decide) ?_
        refine z_iload d_C_readOneName_30 32 rfl rfl ?_
        refine z_iconst (v := -1) d_C_readOneName_32 33 rfl (by decide) ?_
        refine z_cI0 d_C_readOneName_33 36 rfl mi_C_init kl_C_49 (by decide) 1 5 rfl rfl (by decide) (by decide) (fun Q' w => c_C_init q (nI c) (-1) false (nI v) (-1) (zset_self _ _ _) w) rfl rfl (Nat.le_of_ble_eq_true rfl) ?_; rw [zset_zset]
        refine z_goto (tgt := 40) d_C_readOneName_36 rfl ?_
        exact z_aret (r := some q) d_C_readOneName_40 rfl (Or.inl ⟨_, rfl⟩) (by decide) (by decide) (hQ v q hn8 hv hq)
  · refine z_null d_C_readOneName_8 9 rfl ?_
    exact z_aret (r := none) d_C_readOneName_9 rfl (Or.inl ⟨_, rfl⟩) (by decide) (by decide) (hQ0 (Or.inl (by omega)))
end C7
