/-! The class: rounds. Own work. -/
section C39
variable {l : Launch} {D : zD} {M : zM} {W : Nat → Nat} {h : zH} {x dA sA : Nat} {g bb hh mm cc aa : Nat → Nat} {V : Nat → BV} {sc : List Nat} {Q : Option Value → zH → Prop} {As : Nat → List (List Nat)} {T K : Nat → List Nat}
theorem c_B_round0 (a1 : Int32) (he : a1 < 0 ∨ ¬ a1 ≤ nI 10000) (hQ : Q (some (.int (-1))) h) : Runs l D M_B_round [.ref x, .int a1] h 0 0 Q := by
  refine Runs.of rfl rfl (Nat.le_of_ble_eq_true rfl) ?_
  refine z_iload_n d_B_round_0 1 rfl rfl rfl ?_
  refine z_if_lt (tgt := 11) d_B_round_1 4 rfl rfl (fun h1 => ?_) (fun h1 => ?_)
  · refine z_iconst (v := -1) d_B_round_11 12 rfl (by decide) ?_
    exact z_iret d_B_round_12 rfl (Nat.zero_le _) (Nat.zero_le _) hQ
  · refine z_iload_n d_B_round_4 5 rfl rfl rfl ?_
    refine z_sipush (v := nI 10000) d_B_round_5 8 rfl rfl ?_
    refine z_icmp_le (tgt := 13) d_B_round_8 11 rfl rfl (fun h8 => ?_) (fun h8 => ?_)
    · exact absurd h8 (he.resolve_left h1)
    · refine z_iconst (v := -1) d_B_round_11 12 rfl (by decide) ?_
      exact z_iret d_B_round_12 rfl (Nat.zero_le _) (Nat.zero_le _) hQ
theorem c_B_round (a1 : Int32) (u1 u2 u3 u4 : Nat) (hx : h x = some (.inr (1, [.ref (g 0), .ref (g 1), .ref dA, .ref sA]))) (hwx : W x = 3) (hV0 : bgA W D h 10 (g 0) (bb 0) (hh 0) (mm 0) (cc 0) (aa 0) (V 0)) (hV1 : bgA W D h 20 (g 1) (bb 1) (hh 1) (mm 1) (cc 1) (aa 1) (V 1)) (hsc : rowW W D h 2 sA sc) (R0 : bgR (V 0) (As 0) (T 0) (K 1)) (R1 : bgR (V 1) (As 1) (T 1) (K 0)) (hT : tOk As T)
    (hu : ∀ q0 q1, (gatV (V 0) q0).pot = (V 0).pot + u1 ∧ (gatV (V 1) q1).pot = (V 1).pot + u2 ∧ (sndV (gatV (V 0) q0) (gatV (V 1) q1) (toN a1)).pot = (gatV (V 1) q1).pot + u3 ∧ (sndV (sndV (gatV (V 0) q0) (gatV (V 1) q1) (toN a1)) (gatV (V 0) q0) (toN a1)).pot = (gatV (V 0) q0).pot + u4)
    (hQ0 : (a1 < 0 ∨ ¬ a1 ≤ nI 10000) → Q (some (.int (-1))) h)
    (hQ : ¬ a1 < 0 → toN a1 ≤ 10000 → ∀ q0 q1 W' h' sc', stp (fun j => j = 2 ∨ (10 ≤ j ∧ j ≤ 24)) W h W' h' → bgA W' D h' 10 (g 0) (bb 0) (hh 0) (mm 0) (cc 0) (aa 0) (rndV (V 0) (V 1) q0 q1 (toN a1)).1 → bgA W' D h' 20 (g 1) (bb 1) (hh 1) (mm 1) (cc 1) (aa 1) (rndV (V 0) (V 1) q0 q1 (toN a1)).2 → bgR (rndV (V 0) (V 1) q0 q1 (toN a1)).1 (msgA (msgA (rdA As) K 0 (toN a1)) (msgK (rdA As) T K 0) 1 (toN a1) 0) (msgT (msgA (rdA As) K 0 (toN a1)) (msgT (rdA As) T K 0 (toN a1)) (msgK (rdA As) T K 0) 1 (toN a1) 0) (msgK (msgA (rdA As) K 0 (toN a1)) (msgT (rdA As) T K 0 (toN a1)) (msgK (rdA As) T K 0) 1 1) → bgR (rndV (V 0) (V 1) q0 q1 (toN a1)).2 (msgA (msgA (rdA As) K 0 (toN a1)) (msgK (rdA As) T K 0) 1 (toN a1) 1) (msgT (msgA (rdA As) K 0 (toN a1)) (msgT (rdA As) T K 0 (toN a1)) (msgK (rdA As) T K 0) 1 (toN a1) 1) (msgK (msgA (rdA As) K 0 (toN a1)) (msgT (rdA As) T K 0 (toN a1)) (msgK (rdA As) T K 0) 1 0) → rowW W' D h' 2 sA sc' → Q (some (.int (nI (msgN (rdA As) K 0 (toN a1) + msgN (msgA (rdA As) K 0 (toN a1)) (msgK (rdA As) T K 0) 1 (toN a1))))) h') : Runs l D M_B_round [.ref x, .int a1] h (130 + (u1 + u2 + u3 + u4)) (1572 + 2 * (u1 + u2 + u3 + u4)) Q := by
  refine Runs.of rfl rfl (Nat.le_of_ble_eq_true rfl) ?_
  refine z_iload_n d_B_round_0 1 rfl rfl rfl ?_
  refine z_if_lt (tgt := 11) d_B_round_1 4 rfl rfl (fun h1 => ?_) (fun h1 => ?_)
  · refine z_iconst (v := -1) d_B_round_11 12 rfl (by decide) ?_
    exact z_iret d_B_round_12 rfl (Nat.zero_le _) (Nat.zero_le _) (hQ0 (Or.inl h1))
  · refine z_iload_n d_B_round_4 5 rfl rfl rfl ?_
    refine z_sipush (v := nI 10000) d_B_round_5 8 rfl rfl ?_
    refine z_icmp_le (tgt := 13) d_B_round_8 11 rfl rfl (fun h8 => ?_) (fun h8 => ?_)
    · obtain ⟨b, hb31, rfl⟩ := nI_of h1
      rw [toN_nI hb31] at hQ hu
      have hb : b ≤ 10000 := (nI_leI (by omega) (by omega)).1 h8
      have hQ' := hQ h1 hb
      have hlen : ∀ q, q < 2 → (As q).length ≤ 32 := by
        intro q hq
        have hq2 : q = 0 ∨ q = 1 := by omega
        rcases hq2 with rfl | rfl
        · exact R0.l
        · exact R1.l
      have t0 := tOk_tlk hT hlen (q := 0) (by omega)
      have t1 := tOk_tlk hT hlen (q := 1) (by omega)
      have hT1 := tOk_rd hT
      have hl1 := rd_len hlen
      have hT2 := tOk_msg (K := K) (r := 0) (b := b) (by omega) hT1
      have hl2 := msg_len (K := K) (r := 0) (b := b) hl1
      have hT3 := tOk_msg (K := msgK (rdA As) T K 0) (r := 1) (b := b) (by omega) hT2
      have hl3 := msg_len (K := msgK (rdA As) T K 0) (r := 1) (b := b) hl2
      have t21 := tOk_tlk hT2 hl2 (q := 1) (by omega)
      have t30 := tOk_tlk hT3 hl3 (q := 0) (by omega)
      have h240 : ∀ L : List Nat, (clT L).length ≤ 240 := fun L => Nat.le_trans (clT_len L) (by decide)
      refine z_aload_n d_B_round_13 14 rfl rfl rfl ?_
      refine z_get d_B_round_14 17 rfl f_B_10 hx rfl ?_
      refine z_aload_n d_B_round_17 18 rfl rfl rfl ?_
      refine z_get d_B_round_18 21 rfl f_B_26 hx rfl ?_
      refine z_cV (Q' := fun r h' => r = none ∧ ∃ q W' rs', (∀ y, y ∈ (V 0).L → y.1 ≠ q) ∧ stp (fun j => j = 2 ∨ (10 ≤ j ∧ j ≤ 10 + 3)) W h W' h' ∧ bgA W' D h' 10 (g 0) (bb 0) (hh 0) (mm 0) (cc 0) (aa 0) (gatV (V 0) q) ∧ rowW W' D h' 2 sA rs') d_B_round_21 24 rfl mv_G_gatherCluster kl_B_95 (by decide) (65 + u1) (786 + 2 * u1) (Nat.zero_add _) (Nat.zero_add _) (by omega) (by omega) hV0.o (c_G_gather u1 hV0 (by omega) hsc (by omega) (by omega) (fun q h5 hq => ⟨(R0.take t0 (h240 _) (fun _ => hq)).ml t0, (R0.take t0 (h240 _) (fun _ => hq)).cl, by have := (hu q 0).1; rw [show gatV (V 0) q = takeV (V 0) (q, clT (lsL (V 0).L (V 0).c.2)) from if_neg (by omega)] at this; omega⟩) (fun q W' h' rs' hq s y r => ⟨rfl, q, W', rs', hq, s, y, r⟩)) rfl rfl (Nat.le_of_ble_eq_true rfl) ?_; rintro _ g1 ⟨rfl, q0, W1, rs1, hq0, s1, y1, r1⟩
      have B0 := R0.gat t0 (a := q0) (fun _ => hq0)
      obtain ⟨wx1, hx1⟩ := s1 x _ hx (by rw [hwx]; omega)
      have v1 := hV1.st s1 (by omega) (by omega)
      refine z_aload_n d_B_round_24 25 rfl rfl rfl ?_
      refine z_get d_B_round_25 28 rfl f_B_16 hx1 rfl ?_
      refine z_aload_n d_B_round_28 29 rfl rfl rfl ?_
      refine z_get d_B_round_29 32 rfl f_B_26 hx1 rfl ?_
      refine z_cV (Q' := fun r h' => r = none ∧ ∃ q W' rs', (∀ y, y ∈ (V 1).L → y.1 ≠ q) ∧ stp (fun j => j = 2 ∨ (20 ≤ j ∧ j ≤ 20 + 3)) W1 g1 W' h' ∧ bgA W' D h' 20 (g 1) (bb 1) (hh 1) (mm 1) (cc 1) (aa 1) (gatV (V 1) q) ∧ rowW W' D h' 2 sA rs') d_B_round_32 35 rfl mv_G_gatherCluster kl_B_95 (by decide) (65 + u1 + (65 + u2)) (786 + 2 * u1 + (786 + 2 * u2)) rfl rfl (by omega) (by omega) v1.o (c_G_gather u2 v1 (by omega) r1 (by omega) (by omega) (fun q h5 hq => ⟨(R1.take t1 (h240 _) (fun _ => hq)).ml t1, (R1.take t1 (h240 _) (fun _ => hq)).cl, by have := (hu 0 q).2.1; rw [show gatV (V 1) q = takeV (V 1) (q, clT (lsL (V 1).L (V 1).c.2)) from if_neg (by omega)] at this; omega⟩) (fun q W' h' rs' hq s y r => ⟨rfl, q, W', rs', hq, s, y, r⟩)) rfl rfl (Nat.le_of_ble_eq_true rfl) ?_; rintro _ g2 ⟨rfl, q1, W2, rs2, hq1, s2, y2, r2⟩
      have B1 := R1.gat t1 (a := q1) (fun _ => hq1)
      obtain ⟨wx2, hx2⟩ := s2 x _ hx1 (by rw [wx1, hwx]; omega)
      have z0 := y1.st s2 (by omega) (by omega)
      obtain ⟨-, -, hu3, hu4⟩ := hu q0 q1
      obtain ⟨fa, hfa⟩ := z0.L
      obtain ⟨fb, hfb⟩ := y2.L
      obtain ⟨C1, n1⟩ := sndV_R (b := b) B0 B1 t1 t21 (asP_adr hfa hfa) (asP_adr hfa hfb)
      refine z_aload_n d_B_round_35 36 rfl rfl rfl ?_
      refine z_get d_B_round_36 39 rfl f_B_10 hx2 rfl ?_
      refine z_aload_n d_B_round_39 40 rfl rfl rfl ?_
      refine z_get d_B_round_40 43 rfl f_B_16 hx2 rfl ?_
      refine z_iload_n d_B_round_43 44 rfl rfl rfl ?_
      refine z_cV (Q' := fun r h' => ∃ W', stp (fun j => 20 ≤ j ∧ j ≤ 20 + 4) W2 g2 W' h' ∧ bgA W' D h' 20 (g 1) (bb 1) (hh 1) (mm 1) (cc 1) (aa 1) (sndV (gatV (V 0) q0) (gatV (V 1) q1) b) ∧ r = some (.int (nI (sndF (gatV (V 0) q0).a.2 (gatV (V 0) q0).L (b, 0, gatV (V 1) q1)).2.1))) d_B_round_44 47 rfl mv_G_sendTo kl_B_98 (by decide) (65 + u1 + (65 + u2) + u3) (786 + 2 * u1 + (786 + 2 * u2) + 2 * u3) rfl rfl (by omega) (by omega) z0.o (c_G_sendTo u3 b z0 y2 (by omega) (by omega) (by omega) hb B1 t1 (C1.ml t21) hu3 (fun W' h' s y => ⟨W', s, y, rfl⟩)) rfl rfl (Nat.le_of_ble_eq_true rfl) ?_; rintro _ g3 ⟨W3, s3, y3, rfl⟩
      obtain ⟨wx3, hx3⟩ := s3 x _ hx2 (by rw [wx2, wx1, hwx]; omega)
      have z1 := z0.st s3 (by omega) (by omega)
      obtain ⟨fc, hfc⟩ := y3.L
      obtain ⟨fe, hfe⟩ := z1.L
      obtain ⟨C2, n2⟩ := sndV_R (b := b) C1 B0 t0 t30 (asP_adr hfc hfc) (asP_adr hfc hfe)
      refine z_ist2 d_B_round_47 48 rfl rfl ?_
      refine z_iload_n d_B_round_48 49 rfl rfl rfl ?_
      refine z_aload_n d_B_round_49 50 rfl rfl rfl ?_
      refine z_get d_B_round_50 53 rfl f_B_16 hx3 rfl ?_
      refine z_aload_n d_B_round_53 54 rfl rfl rfl ?_
      refine z_get d_B_round_54 57 rfl f_B_10 hx3 rfl ?_
      refine z_iload_n d_B_round_57 58 rfl rfl rfl ?_
      refine z_cV (Q' := fun r h' => ∃ W', stp (fun j => 10 ≤ j ∧ j ≤ 10 + 4) W3 g3 W' h' ∧ bgA W' D h' 10 (g 0) (bb 0) (hh 0) (mm 0) (cc 0) (aa 0) (sndV (sndV (gatV (V 0) q0) (gatV (V 1) q1) b) (gatV (V 0) q0) b) ∧ r = some (.int (nI (sndF (sndV (gatV (V 0) q0) (gatV (V 1) q1) b).a.2 (sndV (gatV (V 0) q0) (gatV (V 1) q1) b).L (b, 0, gatV (V 0) q0)).2.1))) d_B_round_58 61 rfl mv_G_sendTo kl_B_98 (by decide) (65 + u1 + (65 + u2) + u3 + u4) (786 + 2 * u1 + (786 + 2 * u2) + 2 * u3 + 2 * u4) rfl rfl (by omega) (by omega) y3.o (c_G_sendTo u4 b y3 z1 (by omega) (by omega) (by omega) hb B0 t0 (C2.ml t30) hu4 (fun W' h' s y => ⟨W', s, y, rfl⟩)) rfl rfl (Nat.le_of_ble_eq_true rfl) ?_; rintro _ g4 ⟨W4, s4, y4, rfl⟩
      have z3 := y3.st s4 (by omega) (by omega)
      have r4 := (r2.st s3 (by omega)).st s4 (by omega)
      first | refine z_iaddN d_B_round_61 62 rfl ?_ | refine z_iadd d_B_round_61 62 rfl ?_
      rw [n1, n2]
      exact z_iret d_B_round_62 rfl (by omega) (by omega) (hQ' q0 q1 W4 g4 rs2 ((((s1.wk (fun j e => by omega)).tr (s2.wk (fun j e => by omega))).tr (s3.wk (fun j e => by omega))).tr (s4.wk (fun j e => by omega))) y4 z3 C2 C1 r4)
    · refine z_iconst (v := -1) d_B_round_11 12 rfl (by decide) ?_
      exact z_iret d_B_round_12 rfl (Nat.zero_le _) (Nat.zero_le _) (hQ0 (Or.inr h8))
end C39
