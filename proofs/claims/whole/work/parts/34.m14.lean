/-! The reference: rising lists as functions; clusters. Own work. -/
def insS (n : Nat) : List Nat → List Nat
  | [] => [n]
  | a :: t => if n < a then n :: a :: t else if n = a then a :: t else a :: insS n t
def srt (l : List Nat) : List Nat := l.foldr insS []
theorem insS_mem (n x : Nat) : ∀ l, x ∈ insS n l ↔ x = n ∨ x ∈ l := by
  intro l
  induction l with
  | nil => simp [insS]
  | cons a t ih =>
    simp only [insS]
    split
    · simp
    · split
      next h => subst h; simp
      next => simp only [List.mem_cons, ih]; constructor <;> (rintro (h | h | h) <;> simp [h])
theorem insS_SS (n : Nat) : ∀ l, SS l → SS (insS n l) := by
  intro l
  induction l with
  | nil => intro _; simp [insS, SS]
  | cons a t ih =>
    intro h
    have h1 := List.pairwise_cons.mp h
    simp only [insS]
    split
    next hlt =>
      refine List.pairwise_cons.mpr ⟨fun b hb => ?_, h⟩
      rcases List.mem_cons.mp hb with rfl | hb
      · exact hlt
      · exact Nat.lt_trans hlt (h1.1 b hb)
    next hlt =>
      split
      · exact h
      next hne =>
        refine List.pairwise_cons.mpr ⟨fun b hb => ?_, ih h1.2⟩
        rcases (insS_mem n b t).1 hb with rfl | hb
        · omega
        · exact h1.1 b hb
theorem srt_mem (x : Nat) : ∀ l, x ∈ srt l ↔ x ∈ l := by
  intro l
  induction l with
  | nil => simp [srt]
  | cons a t ih => rw [show srt (a :: t) = insS a (srt t) from rfl, insS_mem, ih, List.mem_cons]
theorem srt_SS : ∀ l, SS (srt l) := by
  intro l
  induction l with
  | nil => exact List.Pairwise.nil
  | cons a t ih => exact insS_SS a _ ih
def looseL (As : List (List Nat)) : List Nat := srt ((As.map (dg 7)).filter fun x => !clu As (nI x))
def wantL (As : List (List Nat)) (T : List Nat) : List Nat := srt ((T ++ As.flatMap needA).filter fun x => (lk As (nI x)).isNone)
theorem looseL_mem {As : List (List Nat)} {x : Nat} : x ∈ looseL As ↔ ∃ a, a ∈ As ∧ dg 7 a = x ∧ clu As (nI x) = false := by
  rw [looseL, srt_mem, List.mem_filter, List.mem_map]
  constructor
  · rintro ⟨⟨a, h1, h2⟩, h3⟩
    exact ⟨a, h1, h2, by simpa using h3⟩
  · rintro ⟨a, h1, h2, h3⟩
    exact ⟨⟨a, h1, h2⟩, by simpa using h3⟩
theorem wantL_mem {As : List (List Nat)} {T : List Nat} {x : Nat} : x ∈ wantL As T ↔ (x ∈ T ∨ ∃ a, a ∈ As ∧ x ∈ needA a) ∧ lk As (nI x) = none := by
  rw [wantL, srt_mem, List.mem_filter, List.mem_append, List.mem_flatMap]
  simp
/-- a text is taken, if it isn't held and there is room -/
def addA (As : List (List Nat)) (bs : List Nat) : List (List Nat) := if lk As (nI (dg 7 bs)) = none ∧ As.length < 32 then As ++ [bs] else As
def bodyT (L : List Nat) : List Nat := L.flatMap fun n => [77, 32] ++ nmB n ++ [10]
def clT (L : List Nat) : List Nat := bodyT (L.take 20) ++ ([90, 32] ++ nmB (dg 7 (bodyT (L.take 20))) ++ [10])
def mkCl (As : List (List Nat)) : List (List Nat) := if (looseL As).length ≤ 5 then As else addA As (clT (looseL As))
def askP (va : Nat → Nat → Int32) (r : Nat) (K : List Nat) : Prop := va 7 r = nI K.length ∧ K.length < 900 ∧ ∀ i, i < K.length → va 6 (900 * r + i) = nI (K.getD i 0) ∧ K.getD i 0 < 16777216
/-- the reference's state: what is held, told, asked for; the draft -/
def mSt (As : Nat → List (List Nat)) (T K : Nat → List Nat) (dr : List Nat) (va : Nat → Nat → Int32) : Prop := (∀ q, q < 2 → repP va q (As q)) ∧ (∀ q, q < 2 → toldP va q (T q)) ∧ (∀ q, q < 2 → askP va q (K q)) ∧ slotP va 64 dr
theorem mSt.k8 {As : Nat → List (List Nat)} {T K : Nat → List Nat} {dr : List Nat} {va va' : Nat → Nat → Int32} (h : mSt As T K dr va) (hk : k8 va va') : mSt As T K dr va' :=
  ⟨fun q hq => hk.rep (h.1 q hq), fun q hq => hk.told (h.2.1 q hq), fun q hq => by unfold askP; rw [hk 6 (by decide), hk 7 (by decide)]; exact h.2.2.1 q hq, hk.slot h.2.2.2⟩
theorem mSt.sk65 {As : Nat → List (List Nat)} {T K : Nat → List Nat} {dr : List Nat} {va va' : Nat → Nat → Int32} (h : mSt As T K dr va) (hk : sk 65 va va') : mSt As T K dr va' :=
  ⟨fun q hq => hk.rep (by decide) hq (h.1 q hq), fun q hq => by unfold toldP; rw [hk.1 4 (by decide), hk.1 5 (by decide)]; exact h.2.1 q hq, fun q hq => by unfold askP; rw [hk.1 6 (by decide), hk.1 7 (by decide)]; exact h.2.2.1 q hq, hk.slot (by decide) h.2.2.2⟩
theorem mSt.sk64 {As : Nat → List (List Nat)} {T K : Nat → List Nat} {dr dr' : List Nat} {va va' : Nat → Nat → Int32} (h : mSt As T K dr va) (hk : sk 64 va va') (hd : slotP va' 64 dr') : mSt As T K dr' va' :=
  ⟨fun q hq => hk.rep (by decide) hq (h.1 q hq), fun q hq => by unfold toldP; rw [hk.1 4 (by decide), hk.1 5 (by decide)]; exact h.2.1 q hq, fun q hq => by unfold askP; rw [hk.1 6 (by decide), hk.1 7 (by decide)]; exact h.2.2.1 q hq, hd⟩
def upF {α : Type} (f : Nat → α) (k : Nat) (v : α) : Nat → α := fun j => if j = k then v else f j
theorem mSt.hold {As : Nat → List (List Nat)} {T K : Nat → List Nat} {dr : List Nat} {va va' : Nat → Nat → Int32} {r : Nat} {B : List (List Nat)} (h : mSt As T K dr va) (hr : r < 2) (hl : (As r).length < 32) (hk : hdR r (As r).length va va') (hB : repP va' r B) : mSt (upF As r B) T K dr va' :=
  ⟨fun q hq => by
    unfold upF
    by_cases e : q = r
    · rw [if_pos e, e]; exact hB
    · rw [if_neg e]; exact hk.rep hl e (h.1 q hq),
   fun q hq => by unfold toldP; rw [hk.1 4 (by decide), hk.1 5 (by decide)]; exact h.2.1 q hq, fun q hq => by unfold askP; rw [hk.1 6 (by decide), hk.1 7 (by decide)]; exact h.2.2.1 q hq, hk.slot (by omega) h.2.2.2⟩
theorem upF_same {α : Type} (f : Nat → α) (k : Nat) : upF f k (f k) = f := by
  funext j
  unfold upF
  split
  next h => rw [h]
  next => rfl
section M14
variable {l : Launch} {D : zD} {hp : zH} {o : Nat} {va : Nat → Nat → Int32} {vf : Nat → Int32} {Q : Option Value → zH → Prop} {As : Nat → List (List Nat)} {T K : Nat → List Nat} {dr : List Nat}
/-- hold, in the state's words -/
theorem c_m_holdS (r s : Nat) {bs : List Nat} (hr2 : r < 2) (h : mSt As T K dr va) (hs : s < 66) (hne : (As r).length < 32 → s ≠ 32 * r + (As r).length) (hr : slotP va s bs)
    (hQ : ∀ va', (s ≠ 32 * r + (As r).length → slotP va' s bs) → (∀ q t, q < 2 → t < 32 → q ≠ r → True) → mSt (upF As r (addA (As r) bs)) T K dr va' → Q none (zmod D o hp va' vf)) :
    Runs l D M_m_hold [.ref o, .int (nI r), .int (nI s), .int (nI (dg 7 bs))] (zmod D o hp va vf) 0 0 Q := by
  obtain ⟨j1, j2⟩ := fnd_lk (nI (dg 7 bs)) (As r) (32 * r)
  refine c_m_hold r s hr2 (h.1 r hr2) hs hne hr (fun h0 => ?_) (fun h1 h2 va' h3 h4 => ?_)
  · refine hQ va (fun _ => hr) (fun _ _ _ _ _ => trivial) ?_
    have e : addA (As r) bs = As r := by
      unfold addA
      rw [if_neg]
      rintro ⟨q1, q2⟩
      rcases h0 with h0 | h0
      · cases hf : fnd (nI (dg 7 bs)) (As r) (32 * r) with
        | none => exact h0 hf
        | some v => obtain ⟨-, -, b3, -⟩ := j2 v hf; rw [b3] at q1; cases q1
      · omega
    rw [e, upF_same]
    exact h
  · refine hQ va' (fun q => h3.slot q hr) (fun _ _ _ _ _ => trivial) ?_
    have e : addA (As r) bs = As r ++ [bs] := by
      unfold addA
      rw [if_pos ⟨j1 h1, h2⟩]
    rw [e]
    exact h.hold hr2 h2 h3 h4
theorem bodyT_snoc (L : List Nat) (n : Nat) : bodyT (L ++ [n]) = bodyT L ++ ([77, 32] ++ nmB n ++ [10]) := by simp [bodyT]
theorem bodyT_len : ∀ L : List Nat, (bodyT L).length = 9 * L.length := by
  intro L
  induction L with
  | nil => rfl
  | cons a t ih =>
    rw [show bodyT (a :: t) = ([77, 32] ++ nmB a ++ [10]) ++ bodyT t from rfl, List.length_append, ih]
    simp [nmB]
    omega
theorem c_m_makeCluster (r : Nat) (hr2 : r < 2) (h : mSt As T K dr va)
    (hQ : ∀ va' f, mSt (upF As r (mkCl (As r))) T K dr va' → Q none (zmod D o hp va' f)) : Runs l D M_m_makeCluster [.ref o, .int (nI r)] (zmod D o hp va vf) 0 0 Q := by
  refine Runs.of rfl rfl (Nat.le_of_ble_eq_true rfl) ?_
  refine z_aload_n d_m_makeCluster_0 1 rfl rfl rfl ?_
  refine z_iload_n d_m_makeCluster_1 2 rfl rfl rfl ?_
  refine zm_cVv (fun a f' => k8 va a ∧ (looseL (As r)).length ≤ 32 ∧ listP a f' (looseL (As r))) d_m_makeCluster_2 5 rfl mv_m_listLoose kl_m_149 (by decide) (fun Q' hq => c_m_listLoose r hr2 (h.1 r hr2) (fun a f L h1 h2 h3 h4 => hq _ _ (by rw [show looseL (As r) = L from SS_ext (srt_SS _) h4.2.2.1 (fun x => by rw [looseL_mem, h2 x])]; exact ⟨h1, h3, h4⟩))) rfl rfl (Nat.le_of_ble_eq_true rfl) ?_; rintro x0 f0 ⟨i1, i2, i3⟩
  have h0 := h.k8 i1
  generalize hLe : looseL (As r) = L at i2 i3
  refine z_aload_n d_m_makeCluster_5 6 rfl rfl rfl ?_
  refine zm_getF 9 d_m_makeCluster_6 9 rfl f_m_136 rfl ?_; try simp only [pk_us, pk_un, ne_eq, Nat.reduceEqDiff, not_false_eq_true]
  rw [i3.1]
  refine z_iconst (v := nI 5) d_m_makeCluster_9 10 rfl rfl ?_
  refine z_icmp_gtN (tgt := 14) d_m_makeCluster_10 13 rfl rfl (by omega) (by omega) (fun h10 => ?_) (fun h10 => ?_)
  · have e : mkCl (As r) = addA (As r) (clT L) := by unfold mkCl; rw [hLe, if_neg (by omega)]
    refine z_aload_n d_m_makeCluster_14 15 rfl rfl rfl ?_
    refine zm_getA 1 d_m_makeCluster_15 18 rfl f_m_13 rfl ?_
    refine z_bipush (v := nI 65) d_m_makeCluster_18 20 rfl rfl ?_
    refine z_iconst (v := nI 0) d_m_makeCluster_20 21 rfl rfl ?_
    refine zm_iast d_m_makeCluster_21 22 rfl (by decide) rfl (by simp only [zln]; omega) ?_
    refine z_iconst (v := nI 0) d_m_makeCluster_22 23 rfl rfl ?_
    refine z_ist2 d_m_makeCluster_23 24 rfl rfl ?_
    have k_y0 : sk 65 x0 (va_up x0 1 (upd (x0 1) 65 (nI 0))) := ⟨fun j hj => by simp only [va_up]; rw [if_neg (by omega)], fun t ht => by show upd (x0 1) 65 _ t = _; exact pk_un ht, fun i _ => rfl⟩
    have s_y0 : slotP (va_up x0 1 (upd (x0 1) 65 (nI 0))) 65 [] := ⟨fun k hk => by simp at hk, by show upd (x0 1) 65 _ 65 = _; rw [pk_us]; rfl, by simp⟩
    have fin : ∀ (x : Nat → Nat → Int32) (k : Nat), sk 65 x0 x → slotP x 65 (bodyT (L.take 20)) → Z l D M_m_makeCluster 0 0 Q (zmod D o hp x f0) 0 0 80 [some (.ref o), some (.int (nI r)), some (.int (nI k)), none] [] := by
      intro x k k_x s_x
      have hbl := bodyT_len (L.take 20)
      have ht20 : (L.take 20).length ≤ 20 := by simp; omega
      have hd := dg7 (bodyT (L.take 20))
      refine z_aload_n d_m_makeCluster_80 81 rfl rfl rfl ?_
      refine z_bipush (v := nI 7) d_m_makeCluster_81 83 rfl rfl ?_
      refine z_bipush (v := nI 65) d_m_makeCluster_83 85 rfl rfl ?_
      refine z_aload_n d_m_makeCluster_85 86 rfl rfl rfl ?_
      refine zm_getA 1 d_m_makeCluster_86 89 rfl f_m_13 rfl ?_
      refine z_bipush (v := nI 65) d_m_makeCluster_89 91 rfl rfl ?_
      refine zm_iald d_m_makeCluster_91 92 rfl (by decide) rfl (by simp only [zln]; omega) ?_
      rw [s_x.2.1]
      refine zm_cV1 d_m_makeCluster_92 95 rfl mv_m_digest kl_m_94 (by decide) (fun Q' hq => c_m_digest 7 65 _ s_x.1 (Nat.le_refl _) (by decide) s_x.2.2 (by decide) hq) rfl rfl (Nat.le_of_ble_eq_true rfl) ?_
      rw [List.take_length]
      generalize hbe : bodyT (L.take 20) = B at *
      refine z_ist2 d_m_makeCluster_95 96 rfl rfl ?_
      refine z_aload_n d_m_makeCluster_96 97 rfl rfl rfl ?_
      refine z_bipush (v := nI 65) d_m_makeCluster_97 99 rfl rfl ?_
      refine z_bipush (v := nI 90) d_m_makeCluster_99 101 rfl rfl ?_
      refine zm_cVv (fun aa f => f0 = f ∧ sk 65 x aa ∧ slotP aa 65 (B ++ [90])) d_m_makeCluster_101 104 rfl mv_m_write kl_m_111 (by decide) (fun Q' h => c_m_write 65 (90) s_x (by decide) (by first | omega | (simp; omega)) (by omega) (fun aa h1 h2 => h _ _ ⟨rfl, h1, h2⟩)) rfl rfl (Nat.le_of_ble_eq_true rfl) ?_; rintro y1 _ ⟨rfl, k_y1, s_y1⟩
      refine z_aload_n d_m_makeCluster_104 105 rfl rfl rfl ?_
      refine z_bipush (v := nI 65) d_m_makeCluster_105 107 rfl rfl ?_
      refine z_bipush (v := nI 32) d_m_makeCluster_107 109 rfl rfl ?_
      refine zm_cVv (fun aa f => f0 = f ∧ sk 65 y1 aa ∧ slotP aa 65 (B ++ [90] ++ [32])) d_m_makeCluster_109 112 rfl mv_m_write kl_m_111 (by decide) (fun Q' h => c_m_write 65 (32) s_y1 (by decide) (by first | omega | (simp; omega)) (by omega) (fun aa h1 h2 => h _ _ ⟨rfl, h1, h2⟩)) rfl rfl (Nat.le_of_ble_eq_true rfl) ?_; rintro y2 _ ⟨rfl, k_y2, s_y2⟩
      refine z_aload_n d_m_makeCluster_112 113 rfl rfl rfl ?_
      refine z_bipush (v := nI 65) d_m_makeCluster_113 115 rfl rfl ?_
      refine z_iload_n d_m_makeCluster_115 116 rfl rfl rfl ?_
      refine zm_cVv (fun aa f => f0 = f ∧ sk 65 y2 aa ∧ slotP aa 65 (B ++ [90] ++ [32] ++ nmB (dg 7 B))) d_m_makeCluster_116 119 rfl mv_m_writeName kl_m_124 (by decide) (fun Q' h => c_m_writeName 65 (dg 7 B) s_y2 (by decide) (by first | omega | (simp; omega)) (by omega) (fun aa h1 h2 => h _ _ ⟨rfl, h1, h2⟩)) rfl rfl (Nat.le_of_ble_eq_true rfl) ?_; rintro y3 _ ⟨rfl, k_y3, s_y3⟩
      refine z_aload_n d_m_makeCluster_119 120 rfl rfl rfl ?_
      refine z_bipush (v := nI 65) d_m_makeCluster_120 122 rfl rfl ?_
      refine z_bipush (v := nI 10) d_m_makeCluster_122 124 rfl rfl ?_
      refine zm_cVv (fun aa f => f0 = f ∧ sk 65 y3 aa ∧ slotP aa 65 (B ++ [90] ++ [32] ++ nmB (dg 7 B) ++ [10])) d_m_makeCluster_124 127 rfl mv_m_write kl_m_111 (by decide) (fun Q' h => c_m_write 65 (10) s_y3 (by decide) (by simp [nmB]; omega) (by omega) (fun aa h1 h2 => h _ _ ⟨rfl, h1, h2⟩)) rfl rfl (Nat.le_of_ble_eq_true rfl) ?_; rintro y4 _ ⟨rfl, k_y4, s_y4⟩
      have hcl : clT L = B ++ [90] ++ [32] ++ nmB (dg 7 B) ++ [10] := by unfold clT; rw [hbe]; simp
      rw [← hcl] at s_y4
      refine z_aload_n d_m_makeCluster_127 128 rfl rfl rfl ?_
      refine z_bipush (v := nI 7) d_m_makeCluster_128 130 rfl rfl ?_
      refine z_bipush (v := nI 65) d_m_makeCluster_130 132 rfl rfl ?_
      refine z_aload_n d_m_makeCluster_132 133 rfl rfl rfl ?_
      refine zm_getA 1 d_m_makeCluster_133 136 rfl f_m_13 rfl ?_
      refine z_bipush (v := nI 65) d_m_makeCluster_136 138 rfl rfl ?_
      refine zm_iald d_m_makeCluster_138 139 rfl (by decide) rfl (by simp only [zln]; omega) ?_
      rw [s_y4.2.1]
      refine zm_cV1 d_m_makeCluster_139 142 rfl mv_m_digest kl_m_94 (by decide) (fun Q' hq => c_m_digest 7 65 _ s_y4.1 (Nat.le_refl _) (by decide) s_y4.2.2 (by decide) hq) rfl rfl (Nat.le_of_ble_eq_true rfl) ?_
      rw [List.take_length]
      refine z_ist3 d_m_makeCluster_142 143 rfl rfl ?_
      refine z_aload_n d_m_makeCluster_143 144 rfl rfl rfl ?_
      refine z_iload_n d_m_makeCluster_144 145 rfl rfl rfl ?_
      refine z_bipush (v := nI 65) d_m_makeCluster_145 147 rfl rfl ?_
      refine z_iload_n d_m_makeCluster_147 148 rfl rfl rfl ?_
      have hst := h0.sk65 ((((k_x.trans k_y1).trans k_y2).trans k_y3).trans k_y4)
      refine zm_cVv (fun a f' => mSt (upF As r (addA (As r) (clT L))) T K dr a) d_m_makeCluster_148 151 rfl mv_m_hold kl_m_132 (by decide) (fun Q' hq => c_m_holdS r 65 hr2 hst (by decide) (fun _ => by omega) s_y4 (fun a h1 h2 h3 => hq _ _ h3)) rfl rfl (Nat.le_of_ble_eq_true rfl) ?_; rintro z f9 hz
      exact z_vret d_m_makeCluster_151 rfl (Nat.le_refl 0) (Nat.le_refl 0) (hQ z f9 (by rw [e]; exact hz))
    have loop : ∀ (c k : Nat) (x : Nat → Nat → Int32), (L.take 20).length = k + c → sk 65 x0 x → slotP x 65 (bodyT ((L.take 20).take k)) → Z l D M_m_makeCluster 0 0 Q (zmod D o hp x f0) 0 0 24 [some (.ref o), some (.int (nI r)), some (.int (nI k)), none] [] := by
      intro c
      induction c with
      | zero =>
        intro k x hk k_x s_x
        have ht20 : (L.take 20).length = min 20 L.length := by simp
        rw [List.take_of_length_le (by omega)] at s_x
        refine z_iload_n d_m_makeCluster_24 25 rfl rfl rfl ?_
        refine z_aload_n d_m_makeCluster_25 26 rfl rfl rfl ?_
        refine zm_getF 9 d_m_makeCluster_26 29 rfl f_m_136 rfl ?_; try simp only [pk_us, pk_un, ne_eq, Nat.reduceEqDiff, not_false_eq_true]
        rw [i3.1]
        refine z_icmp_geN (tgt := 80) d_m_makeCluster_29 32 rfl rfl (by omega) (by omega) (fun h29 => ?_) (fun h29 => ?_)
        · exact fin x k k_x s_x
        · refine z_iload_n d_m_makeCluster_32 33 rfl rfl rfl ?_
          refine z_bipush (v := nI 20) d_m_makeCluster_33 35 rfl rfl ?_
          refine z_icmp_geN (tgt := 80) d_m_makeCluster_35 38 rfl rfl (by omega) (by omega) (fun h35 => ?_) (fun h35 => ?_)
          · exact fin x k k_x s_x
          · omega
      | succ c ih =>
        intro k x hk k_x s_x
        have ht20 : (L.take 20).length = min 20 L.length := by simp
        have hbl := bodyT_len ((L.take 20).take k)
        have htk : ((L.take 20).take k).length = k := by rw [List.length_take]; omega
        have hnm := i3.2.2.2 k (by omega)
        have hsn : (L.take 20).take (k + 1) = (L.take 20).take k ++ [L.getD k 0] := by
          rw [List.take_add_one, show (L.take 20)[k]? = some (L.getD k 0) by rw [List.getElem?_take, if_pos (by omega), List.getD_eq_getElem?_getD, List.getElem?_eq_getElem (by omega)]; rfl]
          rfl
        have hbs := bodyT_snoc ((L.take 20).take k) (L.getD k 0)
        rw [← hsn] at hbs
        generalize hbe : bodyT ((L.take 20).take k) = B at s_x hbl hbs
        refine z_iload_n d_m_makeCluster_24 25 rfl rfl rfl ?_
        refine z_aload_n d_m_makeCluster_25 26 rfl rfl rfl ?_
        refine zm_getF 9 d_m_makeCluster_26 29 rfl f_m_136 rfl ?_; try simp only [pk_us, pk_un, ne_eq, Nat.reduceEqDiff, not_false_eq_true]
        rw [i3.1]
        refine z_icmp_geN (tgt := 80) d_m_makeCluster_29 32 rfl rfl (by omega) (by omega) (fun h29 => ?_) (fun h29 => ?_)
        · omega
        · refine z_iload_n d_m_makeCluster_32 33 rfl rfl rfl ?_
          refine z_bipush (v := nI 20) d_m_makeCluster_33 35 rfl rfl ?_
          refine z_icmp_geN (tgt := 80) d_m_makeCluster_35 38 rfl rfl (by omega) (by omega) (fun h35 => ?_) (fun h35 => ?_)
          · omega
          · refine z_aload_n d_m_makeCluster_38 39 rfl rfl rfl ?_
            refine z_bipush (v := nI 65) d_m_makeCluster_39 41 rfl rfl ?_
            refine z_bipush (v := nI 77) d_m_makeCluster_41 43 rfl rfl ?_
            refine zm_cVv (fun aa f => f0 = f ∧ sk 65 x aa ∧ slotP aa 65 (B ++ [77])) d_m_makeCluster_43 46 rfl mv_m_write kl_m_111 (by decide) (fun Q' h => c_m_write 65 (77) s_x (by decide) (by first | omega | (simp; omega)) (by omega) (fun aa h1 h2 => h _ _ ⟨rfl, h1, h2⟩)) rfl rfl (Nat.le_of_ble_eq_true rfl) ?_; rintro y1 _ ⟨rfl, k_y1, s_y1⟩
            refine z_aload_n d_m_makeCluster_46 47 rfl rfl rfl ?_
            refine z_bipush (v := nI 65) d_m_makeCluster_47 49 rfl rfl ?_
            refine z_bipush (v := nI 32) d_m_makeCluster_49 51 rfl rfl ?_
            refine zm_cVv (fun aa f => f0 = f ∧ sk 65 y1 aa ∧ slotP aa 65 (B ++ [77] ++ [32])) d_m_makeCluster_51 54 rfl mv_m_write kl_m_111 (by decide) (fun Q' h => c_m_write 65 (32) s_y1 (by decide) (by first | omega | (simp; omega)) (by omega) (fun aa h1 h2 => h _ _ ⟨rfl, h1, h2⟩)) rfl rfl (Nat.le_of_ble_eq_true rfl) ?_; rintro y2 _ ⟨rfl, k_y2, s_y2⟩
            refine z_aload_n d_m_makeCluster_54 55 rfl rfl rfl ?_
            refine z_bipush (v := nI 65) d_m_makeCluster_55 57 rfl rfl ?_
            refine z_aload_n d_m_makeCluster_57 58 rfl rfl rfl ?_
            refine zm_getA 8 d_m_makeCluster_58 61 rfl f_m_35 rfl ?_
            refine z_iload_n d_m_makeCluster_61 62 rfl rfl rfl ?_
            refine zm_iald d_m_makeCluster_62 63 rfl (by decide) rfl (by simp only [zln]; omega) ?_
            rw [show y2 8 k = nI (L.getD k 0) by rw [((k_x.trans k_y1).trans k_y2).1 8 (by decide)]; exact hnm.1]
            have hnm2 := hnm.2
            generalize L.getD k 0 = nn at hnm2 hbs
            refine zm_cVv (fun aa f => f0 = f ∧ sk 65 y2 aa ∧ slotP aa 65 (B ++ [77] ++ [32] ++ nmB nn)) d_m_makeCluster_63 66 rfl mv_m_writeName kl_m_124 (by decide) (fun Q' h => c_m_writeName 65 nn s_y2 (by decide) (by first | omega | (simp; omega)) (by omega) (fun aa h1 h2 => h _ _ ⟨rfl, h1, h2⟩)) rfl rfl (Nat.le_of_ble_eq_true rfl) ?_; rintro y3 _ ⟨rfl, k_y3, s_y3⟩
            refine z_aload_n d_m_makeCluster_66 67 rfl rfl rfl ?_
            refine z_bipush (v := nI 65) d_m_makeCluster_67 69 rfl rfl ?_
            refine z_bipush (v := nI 10) d_m_makeCluster_69 71 rfl rfl ?_
            refine zm_cVv (fun aa f => f0 = f ∧ sk 65 y3 aa ∧ slotP aa 65 (B ++ [77] ++ [32] ++ nmB nn ++ [10])) d_m_makeCluster_71 74 rfl mv_m_write kl_m_111 (by decide) (fun Q' h => c_m_write 65 (10) s_y3 (by decide) (by simp [nmB]; omega) (by omega) (fun aa h1 h2 => h _ _ ⟨rfl, h1, h2⟩)) rfl rfl (Nat.le_of_ble_eq_true rfl) ?_; rintro y4 _ ⟨rfl, k_y4, s_y4⟩
            first | refine z_incN2 d_m_makeCluster_74 77 rfl rfl ?_ | refine z_inc2 d_m_makeCluster_74 77 rfl rfl rfl ?_
            refine z_goto (tgt := 24) d_m_makeCluster_77 rfl ?_
            exact ih (k + 1) y4 (by omega) ((((k_x.trans k_y1).trans k_y2).trans k_y3).trans k_y4) (by rw [hbs]; simpa using s_y4)
    exact loop (L.take 20).length 0 _ (by omega) k_y0 s_y0
  · have e : mkCl (As r) = As r := by unfold mkCl; rw [hLe, if_pos (by omega)]
    exact z_vret d_m_makeCluster_13 rfl (Nat.le_refl 0) (Nat.le_refl 0) (hQ x0 f0 (by rw [e, upF_same]; exact h0))
end M14
