/-! The reference: messages and rounds. Own work. -/
def sendF (Ar : List (List Nat)) : List Nat → Nat × Nat × List (List Nat) → Nat × Nat × List (List Nat)
  | [], z => z
  | n :: t, z => match lk Ar (nI n) with
    | some b => if b.length ≤ z.1 then sendF Ar t (z.1 - b.length, z.2.1 + 1, addA z.2.2 b) else sendF Ar t z
    | none => sendF Ar t z
def tellF (At : List (List Nat)) : List Nat → List Nat → List Nat
  | [], T => T
  | n :: t, T => tellF At t (if lk At (nI n) ≠ none ∨ n ∈ T then T else T ++ [n])
/-- what was told is a name of the other repository's, once -/
def tOk (As : Nat → List (List Nat)) (T : Nat → List Nat) : Prop := ∀ q, q < 2 → (T q).Nodup ∧ ∀ x, x ∈ T q → ∃ a, a ∈ As (1 - q) ∧ dg 7 a = x
theorem nodup_len : ∀ {L U : List Nat}, L.Nodup → (∀ x, x ∈ L → x ∈ U) → L.length ≤ U.length := by
  intro L
  induction L with
  | nil => intro U _ _; simp
  | cons a t ih =>
    intro U hL h
    have h1 := List.nodup_cons.mp hL
    have ha := h a List.mem_cons_self
    have := ih (U := U.erase a) h1.2 (fun x hx => by
      have hne : x ≠ a := fun e => h1.1 (e ▸ hx)
      exact (List.mem_erase_of_ne hne).2 (h x (List.mem_cons_of_mem _ hx)))
    rw [List.length_erase_of_mem ha] at this
    have hpos : 0 < U.length := List.length_pos_of_mem ha
    simp
    omega
theorem drop_consN {L : List Nat} {j : Nat} (h : j < L.length) : L.drop j = L.getD j 0 :: L.drop (j + 1) := by
  rw [List.drop_eq_getElem_cons h, List.getD_eq_getElem?_getD, List.getElem?_eq_getElem h]
  rfl
theorem tellF_ok (At : List (List Nat)) : ∀ (L T : List Nat), T.Nodup → (tellF At L T).Nodup ∧ ∀ x, x ∈ tellF At L T → x ∈ T ∨ x ∈ L := by
  intro L
  induction L with
  | nil => intro T h; exact ⟨h, fun x hx => Or.inl hx⟩
  | cons n t ih =>
    intro T h
    rw [tellF]
    split
    · obtain ⟨h1, h2⟩ := ih T h
      exact ⟨h1, fun x hx => (h2 x hx).elim Or.inl (fun q => Or.inr (List.mem_cons_of_mem _ q))⟩
    next hc =>
      have hn : n ∉ T := fun q => hc (Or.inr q)
      obtain ⟨h1, h2⟩ := ih (T ++ [n]) (by
        rw [List.nodup_append]
        exact ⟨h, by simp, fun a ha b hb => by rw [List.mem_singleton.mp hb]; exact fun e => hn (e ▸ ha)⟩)
      refine ⟨h1, fun x hx => ?_⟩
      rcases h2 x hx with q | q
      · rcases List.mem_append.mp q with q | q
        · exact Or.inl q
        · rw [List.mem_singleton.mp q]; exact Or.inr List.mem_cons_self
      · exact Or.inr (List.mem_cons_of_mem _ q)
section M15
variable {l : Launch} {D : zD} {hp : zH} {o : Nat} {va : Nat → Nat → Int32} {vf : Nat → Int32} {Q : Option Value → zH → Prop} {As : Nat → List (List Nat)} {T K : Nat → List Nat} {dr : List Nat}
theorem c_m_message (r to b : Nat) (hr2 : r < 2) (hto : to = 1 - r) (hb : b ≤ 10000) (h : mSt As T K dr va) (hT : tOk As T)
    (hQ : ∀ va' f, mSt (upF As to (sendF (As r) (K to) (b, 0, As to)).2.2) (upF T to (tellF (sendF (As r) (K to) (b, 0, As to)).2.2 (looseL (As r)) (T to))) (upF K r (wantL (As r) (T r))) dr va' → Q (some (.int (nI (sendF (As r) (K to) (b, 0, As to)).2.1))) (zmod D o hp va' f)) :
    Runs l D M_m_message [.ref o, .int (nI r), .int (nI b)] (zmod D o hp va vf) 0 0 Q := by
  refine Runs.of rfl rfl (Nat.le_of_ble_eq_true rfl) ?_
  have hto2 : to < 2 := by omega
  have hne : to ≠ r := by omega
  refine z_iconst (v := nI 1) d_m_message_0 1 rfl rfl ?_
  refine z_iload_n d_m_message_1 2 rfl rfl rfl ?_
  refine z_isubN d_m_message_2 3 rfl (by omega) ?_
  rw [← hto]
  refine z_ist3 d_m_message_3 4 rfl rfl ?_
  refine z_iload_n d_m_message_4 5 rfl rfl rfl ?_
  refine z_ist4 d_m_message_5 7 rfl rfl ?_
  refine z_iconst (v := nI 0) d_m_message_7 8 rfl rfl ?_
  refine z_ist5 d_m_message_8 10 rfl rfl ?_
  refine z_iconst (v := nI 0) d_m_message_10 11 rfl rfl ?_
  refine z_ist6 d_m_message_11 13 rfl rfl ?_
  generalize hSe : sendF (As r) (K to) (b, 0, As to) = S at hQ
  -- the end: what is asked for
  have last : ∀ (c k : Nat) (x : Nat → Nat → Int32) (f : Nat → Int32) (L A : List Nat) (le : Nat) (z7 z8 : Option Value), listP x f L → L.length < 900 → k + c = L.length → x 7 r = nI L.length → (∀ i, i < k → x 6 (900 * r + i) = nI (L.getD i 0)) → (∀ y, (∀ j, j ≠ 6 → y j = x j) → (∀ i, (i < 900 * r ∨ 900 * r + L.length ≤ i) → y 6 i = x 6 i) → (∀ i, i < L.length → y 6 (900 * r + i) = nI (L.getD i 0)) → Q (some (.int (nI S.2.1))) (zmod D o hp y f)) → Z l D M_m_message 0 0 Q (zmod D o hp x f) 0 0 148 [some (.ref o), some (.int (nI r)), some (.int (nI b)), some (.int (nI to)), some (.int (nI le)), some (.int (nI S.2.1)), some (.int (nI k)), z7, z8] [] := by
    intro c
    induction c with
    | zero =>
      intro k x f L A le z7 z8 hL hl9 hk h7 h6 fin
      refine z_iload d_m_message_148 150 rfl rfl ?_
      refine z_aload_n d_m_message_150 151 rfl rfl rfl ?_
      refine zm_getF 9 d_m_message_151 154 rfl f_m_136 rfl ?_; try simp only [pk_us, pk_un, ne_eq, Nat.reduceEqDiff, not_false_eq_true]
      rw [hL.1]
      refine z_icmp_geN (tgt := 183) d_m_message_154 157 rfl rfl (by omega) (by omega) (fun h154 => ?_) (fun h154 => ?_)
      · refine z_iload d_m_message_183 185 rfl rfl ?_
        exact z_iret d_m_message_185 rfl (Nat.le_refl 0) (Nat.le_refl 0) (fin x (fun _ _ => rfl) (fun _ _ => rfl) (fun i hi => h6 i (by omega)))
      · omega
    | succ c ih =>
      intro k x f L A le z7 z8 hL hl9 hk h7 h6 fin
      refine z_iload d_m_message_148 150 rfl rfl ?_
      refine z_aload_n d_m_message_150 151 rfl rfl rfl ?_
      refine zm_getF 9 d_m_message_151 154 rfl f_m_136 rfl ?_; try simp only [pk_us, pk_un, ne_eq, Nat.reduceEqDiff, not_false_eq_true]
      rw [hL.1]
      refine z_icmp_geN (tgt := 183) d_m_message_154 157 rfl rfl (by omega) (by omega) (fun h154 => ?_) (fun h154 => ?_)
      · omega
      · refine z_aload_n d_m_message_157 158 rfl rfl rfl ?_
        refine zm_getA 6 d_m_message_158 161 rfl f_m_29 rfl ?_
        refine z_sipush (v := nI 900) d_m_message_161 164 rfl rfl ?_
        refine z_iload_n d_m_message_164 165 rfl rfl rfl ?_
        first | refine z_imulN d_m_message_165 166 rfl ?_ | refine z_imul d_m_message_165 166 rfl ?_
        refine z_iload d_m_message_166 168 rfl rfl ?_
        first | refine z_iaddN d_m_message_168 169 rfl ?_ | refine z_iadd d_m_message_168 169 rfl ?_
        refine z_aload_n d_m_message_169 170 rfl rfl rfl ?_
        refine zm_getA 8 d_m_message_170 173 rfl f_m_35 rfl ?_
        refine z_iload d_m_message_173 175 rfl rfl ?_
        refine zm_iald d_m_message_175 176 rfl (by decide) rfl (by simp only [zln]; omega) ?_
        rw [(hL.2.2.2 k (by omega)).1]
        refine zm_iast d_m_message_176 177 rfl (by decide) rfl (by simp only [zln]; omega) ?_
        first | refine z_incN6 d_m_message_177 180 rfl rfl ?_ | refine z_inc6 d_m_message_177 180 rfl rfl rfl ?_
        refine z_goto (tgt := 148) d_m_message_180 rfl ?_
        refine ih (k + 1) _ f L A le z7 z8 ⟨hL.1, hL.2.1, hL.2.2.1, fun i hi => hL.2.2.2 i hi⟩ hl9 (by omega) h7 (fun i hi => ?_) (fun y y1 y2 y3 => ?_)
        · show upd (x 6) (900 * r + k) _ (900 * r + i) = _
          by_cases e : i = k
          · rw [e, pk_us]
          · rw [pk_un (by omega)]
            exact h6 i (by omega)
        · refine fin y (fun j hj => ?_) (fun i hi => ?_) y3
          · rw [y1 j hj]
            simp only [va_up]
            rw [if_neg hj]
          · rw [y2 i hi]
            show upd (x 6) (900 * r + k) _ i = _
            exact pk_un (by omega)
  -- what is told
  have tells : ∀ (L : List Nat), (∀ y, y ∈ L → ∃ a, a ∈ As r ∧ dg 7 a = y) → ∀ (c k : Nat) (x : Nat → Nat → Int32) (f : Nat → Int32) (Tt : List Nat) (le : Nat) (z7 z8 : Option Value), listP x f L → L.length ≤ 32 → k + c = L.length → mSt (upF As to S.2.2) (upF T to Tt) K dr x → Tt.Nodup → (∀ y, y ∈ Tt → ∃ a, a ∈ As r ∧ dg 7 a = y) → tellF S.2.2 (looseL (As r)) (T to) = tellF S.2.2 (L.drop k) Tt → Z l D M_m_message 0 0 Q (zmod D o hp x f) 0 0 103 [some (.ref o), some (.int (nI r)), some (.int (nI b)), some (.int (nI to)), some (.int (nI le)), some (.int (nI S.2.1)), some (.int (nI k)), z7, z8] [] := by
    intro L hLm c
    induction c with
    | zero =>
      intro k x f Tt le z7 z8 hL hl hk hst hnd htm he
      rw [List.drop_eq_nil_of_le (by omega), tellF] at he
      rw [he] at hQ
      have hArr : upF As to S.2.2 r = As r := by simp [upF, Ne.symm hne]
      have hTrr : upF T to Tt r = T r := by simp [upF, Ne.symm hne]
      have hRr := hst.1 r hr2
      rw [hArr] at hRr
      have hTr := hst.2.1 r hr2
      rw [hTrr] at hTr
      refine z_iload d_m_message_103 105 rfl rfl ?_
      refine z_aload_n d_m_message_105 106 rfl rfl rfl ?_
      refine zm_getF 9 d_m_message_106 109 rfl f_m_136 rfl ?_; try simp only [pk_us, pk_un, ne_eq, Nat.reduceEqDiff, not_false_eq_true]
      rw [hL.1]
      refine z_icmp_geN (tgt := 130) d_m_message_109 112 rfl rfl (by omega) (by omega) (fun h109 => ?_) (fun h109 => ?_)
      · refine z_aload_n d_m_message_130 131 rfl rfl rfl ?_
        refine z_iload_n d_m_message_131 132 rfl rfl rfl ?_
        refine zm_cVv (fun a f' => k8 x a ∧ (wantL (As r) (T r)).length < 900 ∧ listP a f' (wantL (As r) (T r))) d_m_message_132 135 rfl mv_m_listWanted kl_m_155 (by decide) (fun Q' hq => c_m_listWanted r hr2 hRr hTr (fun a f L h1 h2 h3 h4 => hq _ _ (by rw [show wantL (As r) (T r) = L from SS_ext (srt_SS _) h4.2.2.1 (fun x => by rw [wantL_mem, h2 x])]; exact ⟨h1, h3, h4⟩))) rfl rfl (Nat.le_of_ble_eq_true rfl) ?_; rintro x2 f2 ⟨i1, i2, i3⟩
        have hst2 := hst.k8 i1
        generalize hWe : wantL (As r) (T r) = Wt at *
        refine z_aload_n d_m_message_135 136 rfl rfl rfl ?_
        refine zm_getA 7 d_m_message_136 139 rfl f_m_32 rfl ?_
        refine z_iload_n d_m_message_139 140 rfl rfl rfl ?_
        refine z_aload_n d_m_message_140 141 rfl rfl rfl ?_
        refine zm_getF 9 d_m_message_141 144 rfl f_m_136 rfl ?_; try simp only [pk_us, pk_un, ne_eq, Nat.reduceEqDiff, not_false_eq_true]
        rw [i3.1]
        refine zm_iast d_m_message_144 145 rfl (by decide) rfl (by simp only [zln]; omega) ?_
        refine z_iconst (v := nI 0) d_m_message_145 146 rfl rfl ?_
        refine z_ist6 d_m_message_146 148 rfl rfl ?_
        refine last Wt.length 0 _ f2 Wt [] le z7 z8 ⟨i3.1, i3.2.1, i3.2.2.1, fun i hi => i3.2.2.2 i hi⟩ i2 (by omega) (by show upd (x2 7) r _ r = _; rw [pk_us]) (fun i hi => by omega) (fun y y1 y2 y3 => ?_)
        refine hQ y f2 ⟨fun q hq => ?_, fun q hq => ?_, fun q hq => ?_, ?_⟩
        · have := hst2.1 q hq
          unfold repP slotP zrow at this ⊢
          rw [y1 0 (by decide), y1 1 (by decide), y1 2 (by decide), y1 3 (by decide)]
          exact this
        · have := hst2.2.1 q hq
          unfold toldP at this ⊢
          rw [y1 4 (by decide), y1 5 (by decide)]
          exact this
        · unfold upF
          by_cases e : q = r
          · rw [if_pos e, e]
            refine ⟨?_, i2, fun i hi => ⟨y3 i hi, (i3.2.2.2 i hi).2⟩⟩
            rw [y1 7 (by decide)]
            show upd (x2 7) r _ r = _
            rw [pk_us]
          · rw [if_neg e]
            obtain ⟨a1, a2, a3⟩ := hst2.2.2.1 q hq
            refine ⟨?_, a2, fun i hi => ⟨?_, (a3 i hi).2⟩⟩
            · rw [y1 7 (by decide)]
              show upd (x2 7) r _ q = _
              rw [pk_un e]
              exact a1
            · rw [y2 _ (by omega)]
              exact (a3 i hi).1
        · have := hst2.2.2.2
          unfold slotP zrow at this ⊢
          rw [y1 0 (by decide), y1 1 (by decide)]
          exact this
      · omega
    | succ c ih =>
      intro k x f Tt le z7 z8 hL hl hk hst hnd htm he
      have hnm := hL.2.2.2 k (by omega)
      have hmem : L.getD k 0 ∈ L := getD_mem (by omega)
      have hAt : upF As to S.2.2 to = S.2.2 := by simp [upF]
      have hTt : upF T to Tt to = Tt := by simp [upF]
      have hRt := hst.1 to hto2
      rw [hAt] at hRt
      have hTl := hst.2.1 to hto2
      rw [hTt] at hTl
      rw [drop_consN (by omega), tellF] at he
      refine z_iload d_m_message_103 105 rfl rfl ?_
      refine z_aload_n d_m_message_105 106 rfl rfl rfl ?_
      refine zm_getF 9 d_m_message_106 109 rfl f_m_136 rfl ?_; try simp only [pk_us, pk_un, ne_eq, Nat.reduceEqDiff, not_false_eq_true]
      rw [hL.1]
      refine z_icmp_geN (tgt := 130) d_m_message_109 112 rfl rfl (by omega) (by omega) (fun h109 => ?_) (fun h109 => ?_)
      · omega
      · refine z_aload_n d_m_message_112 113 rfl rfl rfl ?_
        refine z_iload_n d_m_message_113 114 rfl rfl rfl ?_
        refine z_aload_n d_m_message_114 115 rfl rfl rfl ?_
        refine zm_getA 8 d_m_message_115 118 rfl f_m_35 rfl ?_
        refine z_iload d_m_message_118 120 rfl rfl ?_
        refine zm_iald d_m_message_120 121 rfl (by decide) rfl (by simp only [zln]; omega) ?_
        rw [hnm.1]
        have hn2 := hnm.2
        have hNm := hLm _ hmem
        generalize L.getD k 0 = nn at hn2 hNm he
        have hroom : lk S.2.2 (nI nn) = none → nn ∉ Tt → Tt.length < 32 := by
          intro h1 h2
          have h32 := (h.1 r hr2).1
          have := nodup_len (L := Tt ++ [nn]) (U := (As r).map (dg 7)) (by rw [List.nodup_append]; exact ⟨hnd, by simp, fun a ha b hb => by rw [List.mem_singleton.mp hb]; exact fun e => h2 (e ▸ ha)⟩) (fun y hy => by
            rcases List.mem_append.mp hy with hy | hy
            · obtain ⟨a, q1, q2⟩ := htm y hy; exact List.mem_map.mpr ⟨a, q1, q2⟩
            · rw [List.mem_singleton.mp hy]; obtain ⟨a, q1, q2⟩ := hNm; exact List.mem_map.mpr ⟨a, q1, q2⟩)
          simp at this
          omega
        refine zm_cVv (fun a f' => f = f' ∧ (((lk S.2.2 (nI nn) ≠ none ∨ nn ∈ Tt) ∧ a = x) ∨ ((¬ (lk S.2.2 (nI nn) ≠ none ∨ nn ∈ Tt)) ∧ (∀ j, j ≠ 4 → j ≠ 5 → a j = x j) ∧ (∀ q, q ≠ to → a 5 q = x 5 q) ∧ (∀ i, i ≠ 32 * to + Tt.length → a 4 i = x 4 i) ∧ toldP a to (Tt ++ [nn])))) d_m_message_121 124 rfl mv_m_tell kl_m_152 (by decide) (fun Q' hq => c_m_tell to nn hto2 hn2 hRt hTl hroom (fun h0 => hq _ _ ⟨rfl, Or.inl ⟨h0, rfl⟩⟩) (fun h1 h2 a q1 q2 q3 q4 => hq _ _ ⟨rfl, Or.inr ⟨by rintro (q | q); (exact q h1); (exact h2 q), q1, q2, q3, q4⟩⟩)) rfl rfl (Nat.le_of_ble_eq_true rfl) ?_; rintro x3 _ ⟨rfl, hx3⟩
        rcases hx3 with ⟨hc, rfl⟩ | ⟨hc, q1, q2, q3, q4⟩
        · rw [if_pos hc] at he
          first | refine z_incN6 d_m_message_124 127 rfl rfl ?_ | refine z_inc6 d_m_message_124 127 rfl rfl rfl ?_
          refine z_goto (tgt := 103) d_m_message_127 rfl ?_
          exact ih (k + 1) _ f Tt le z7 z8 hL hl (by omega) hst hnd htm he
        · rw [if_neg hc] at he
          first | refine z_incN6 d_m_message_124 127 rfl rfl ?_ | refine z_inc6 d_m_message_124 127 rfl rfl rfl ?_
          refine z_goto (tgt := 103) d_m_message_127 rfl ?_
          refine ih (k + 1) x3 f (Tt ++ [nn]) le z7 z8 ⟨hL.1, hL.2.1, hL.2.2.1, fun i hi => by rw [q1 8 (by decide) (by decide)]; exact hL.2.2.2 i hi⟩ hl (by omega) ⟨fun q hq => ?_, fun q hq => ?_, fun q hq => ?_, ?_⟩ (by rw [List.nodup_append]; exact ⟨hnd, by simp, fun a ha b hb => by rw [List.mem_singleton.mp hb]; exact fun e => hc (Or.inr (e ▸ ha))⟩) (fun y hy => ?_) he
          · have := hst.1 q hq
            unfold repP slotP zrow at this ⊢
            rw [q1 0 (by decide) (by decide), q1 1 (by decide) (by decide), q1 2 (by decide) (by decide), q1 3 (by decide) (by decide)]
            exact this
          · unfold upF
            by_cases e : q = to
            · rw [if_pos e, e]
              exact q4
            · rw [if_neg e]
              have := hst.2.1 q hq
              unfold upF at this
              rw [if_neg e] at this
              obtain ⟨a1, a2, a3⟩ := this
              have htl := hTl.2.1
              have htl4 := q4.2.1
              simp at htl4
              exact ⟨by rw [q2 q e]; exact a1, a2, fun i hi => ⟨by rw [q3 _ (by omega)]; exact (a3 i hi).1, (a3 i hi).2⟩⟩
          · have := hst.2.2.1 q hq
            unfold askP at this ⊢
            rw [q1 6 (by decide) (by decide), q1 7 (by decide) (by decide)]
            exact this
          · have := hst.2.2.2
            unfold slotP zrow at this ⊢
            rw [q1 0 (by decide) (by decide), q1 1 (by decide) (by decide)]
            exact this
          · rcases List.mem_append.mp hy with hy | hy
            · exact htm y hy
            · rw [List.mem_singleton.mp hy]; exact hNm
  -- what is sent
  have sends : ∀ (c i : Nat) (x : Nat → Nat → Int32) (f : Nat → Int32) (le se : Nat) (At : List (List Nat)) (z7 z8 : Option Value), i + c = (K to).length → le ≤ 10000 → se ≤ i → mSt (upF As to At) T K dr x → S = sendF (As r) ((K to).drop i) (le, se, At) → (∀ v, z7 = some v → v.category = 1) → Z l D M_m_message 0 0 Q (zmod D o hp x f) 0 0 13 [some (.ref o), some (.int (nI r)), some (.int (nI b)), some (.int (nI to)), some (.int (nI le)), some (.int (nI se)), some (.int (nI i)), z7, z8] [] := by
    intro c
    induction c with
    | zero =>
      intro i x f le se At z7 z8 hi hle hse hst he hz
      rw [List.drop_eq_nil_of_le (by omega), sendF] at he
      have e1 : S.2.1 = se := by rw [he]
      have e2 : S.2.2 = At := by rw [he]
      have hA := hst.2.2.1 to hto2
      have hArr : upF As to At r = As r := by simp [upF, Ne.symm hne]
      have hRr := hst.1 r hr2
      rw [hArr] at hRr
      refine z_iload d_m_message_13 15 rfl rfl ?_
      refine z_aload_n d_m_message_15 16 rfl rfl rfl ?_
      refine zm_getA 7 d_m_message_16 19 rfl f_m_32 rfl ?_
      refine z_iload_n d_m_message_19 20 rfl rfl rfl ?_
      refine zm_iald d_m_message_20 21 rfl (by decide) rfl (by simp only [zln]; omega) ?_
      rw [hA.1]
      (have hA2 := hA.2.1); refine z_icmp_geN (tgt := 95) d_m_message_21 24 rfl rfl (by omega) (by omega) (fun h21 => ?_) (fun h21 => ?_)
      · refine z_aload_n d_m_message_95 96 rfl rfl rfl ?_
        refine z_iload_n d_m_message_96 97 rfl rfl rfl ?_
        refine zm_cVv (fun a f' => k8 x a ∧ (looseL (As r)).length ≤ 32 ∧ listP a f' (looseL (As r))) d_m_message_97 100 rfl mv_m_listLoose kl_m_149 (by decide) (fun Q' hq => c_m_listLoose r hr2 hRr (fun a f L h1 h2 h3 h4 => hq _ _ (by rw [show looseL (As r) = L from SS_ext (srt_SS _) h4.2.2.1 (fun x => by rw [looseL_mem, h2 x])]; exact ⟨h1, h3, h4⟩))) rfl rfl (Nat.le_of_ble_eq_true rfl) ?_; rintro x2 f2 ⟨i1, i2, i3⟩
        refine z_iconst (v := nI 0) d_m_message_100 101 rfl rfl ?_
        refine z_ist6 d_m_message_101 103 rfl rfl ?_
        rw [← e1]
        refine tells (looseL (As r)) (fun y hy => by obtain ⟨a, q1, q2, -⟩ := looseL_mem.1 hy; exact ⟨a, q1, q2⟩) (looseL (As r)).length 0 x2 f2 (T to) le z7 z8 i3 i2 (by omega) (by rw [e2, upF_same]; exact hst.k8 i1) (hT to hto2).1 (fun y hy => by obtain ⟨a, q1, q2⟩ := (hT to hto2).2 y hy; rw [show 1 - to = r by omega] at q1; exact ⟨a, q1, q2⟩) rfl
      · omega
    | succ c ih =>
      intro i x f le se At z7 z8 hi hle hse hst he hz
      have hA := hst.2.2.1 to hto2
      have hA2 := hA.2.1
      have hArr : upF As to At r = As r := by simp [upF, Ne.symm hne]
      have hAtt : upF As to At to = At := by simp [upF]
      have hRr := hst.1 r hr2
      rw [hArr] at hRr
      have h32 := hRr.1
      have hK := hA.2.2 i (by omega)
      rw [drop_consN (by omega), sendF] at he
      refine z_iload d_m_message_13 15 rfl rfl ?_
      refine z_aload_n d_m_message_15 16 rfl rfl rfl ?_
      refine zm_getA 7 d_m_message_16 19 rfl f_m_32 rfl ?_
      refine z_iload_n d_m_message_19 20 rfl rfl rfl ?_
      refine zm_iald d_m_message_20 21 rfl (by decide) rfl (by simp only [zln]; omega) ?_
      rw [hA.1]
      refine z_icmp_geN (tgt := 95) d_m_message_21 24 rfl rfl (by omega) (by omega) (fun h21 => ?_) (fun h21 => ?_)
      · omega
      · refine z_aload_n d_m_message_24 25 rfl rfl rfl ?_
        refine zm_getA 6 d_m_message_25 28 rfl f_m_29 rfl ?_
        refine z_sipush (v := nI 900) d_m_message_28 31 rfl rfl ?_
        refine z_iload_n d_m_message_31 32 rfl rfl rfl ?_
        first | refine z_imulN d_m_message_32 33 rfl ?_ | refine z_imul d_m_message_32 33 rfl ?_
        refine z_iload d_m_message_33 35 rfl rfl ?_
        first | refine z_iaddN d_m_message_35 36 rfl ?_ | refine z_iadd d_m_message_35 36 rfl ?_
        refine zm_iald d_m_message_36 37 rfl (by decide) rfl (by simp only [zln]; omega) ?_
        rw [hK.1]
        have hK2 := hK.2
        generalize (K to).getD i 0 = nn at hK2 he
        obtain ⟨j1, j2⟩ := fnd_lk (nI nn) (As r) (32 * r)
        refine z_ist7 d_m_message_37 39 rfl rfl ?_
        refine z_aload_n d_m_message_39 40 rfl rfl rfl ?_
        refine z_iload_n d_m_message_40 41 rfl rfl rfl ?_
        refine z_iload d_m_message_41 43 rfl rfl ?_
        refine zm_cV1 d_m_message_43 46 rfl mv_m_find kl_m_98 (by decide) (fun Q' hq => c_m_find r _ hr2 hRr hq) rfl rfl (Nat.le_of_ble_eq_true rfl) ?_
        refine z_ist8 d_m_message_46 48 rfl rfl ?_
        refine z_iload d_m_message_48 50 rfl rfl ?_
        refine z_if_ltO (tgt := 89) d_m_message_50 53 rfl rfl (fun v h => by obtain ⟨h1, h2, -⟩ := j2 v h; omega) (fun h50 => ?_) (fun w50 h50 => ?_)
        · rw [j1 h50] at he
          first | refine z_incN6 d_m_message_89 92 rfl rfl ?_ | refine z_inc6 d_m_message_89 92 rfl rfl rfl ?_
          refine z_goto (tgt := 13) d_m_message_92 rfl ?_
          exact ih (i + 1) x f le se At _ _ (by omega) hle (by omega) hst he (fun v hv => by cases hv; rfl)
        · obtain ⟨b1, b2, b3, b4⟩ := j2 _ h50
          rw [b3] at he
          rw [h50, show oI (some w50) = nI w50 from rfl]
          obtain ⟨hsl, -⟩ := hRr.2.2 (w50 - 32 * r) b2
          rw [show 32 * r + (w50 - 32 * r) = w50 by omega] at hsl
          generalize (As r).getD (w50 - 32 * r) [] = bs at hsl b4 he
          have hl := hsl.2.2
          refine z_aload_n d_m_message_53 54 rfl rfl rfl ?_
          refine zm_getA 1 d_m_message_54 57 rfl f_m_13 rfl ?_
          refine z_iload d_m_message_57 59 rfl rfl ?_
          refine zm_iald d_m_message_59 60 rfl (by decide) rfl (by simp only [zln]; omega) ?_
          rw [hsl.2.1]
          refine z_iload d_m_message_60 62 rfl rfl ?_
          refine z_icmp_gtN (tgt := 89) d_m_message_62 65 rfl rfl (by omega) (by omega) (fun h62 => ?_) (fun h62 => ?_)
          · have hn : ¬ bs.length ≤ (le, se, At).1 := by show ¬ bs.length ≤ le; omega
            simp only [if_neg hn] at he
            first | refine z_incN6 d_m_message_89 92 rfl rfl ?_ | refine z_inc6 d_m_message_89 92 rfl rfl rfl ?_
            refine z_goto (tgt := 13) d_m_message_92 rfl ?_
            exact ih (i + 1) x f le se At _ _ (by omega) hle (by omega) hst he (fun v hv => by cases hv; rfl)
          · have hn : bs.length ≤ (le, se, At).1 := h62
            simp only [if_pos hn] at he
            refine z_iload d_m_message_65 67 rfl rfl ?_
            refine z_aload_n d_m_message_67 68 rfl rfl rfl ?_
            refine zm_getA 1 d_m_message_68 71 rfl f_m_13 rfl ?_
            refine z_iload d_m_message_71 73 rfl rfl ?_
            refine zm_iald d_m_message_73 74 rfl (by decide) rfl (by simp only [zln]; omega) ?_
            rw [hsl.2.1]
            refine z_isubN d_m_message_74 75 rfl (by omega) ?_
            refine z_ist4 d_m_message_75 77 rfl rfl ?_
            first | refine z_incN5 d_m_message_77 80 rfl rfl ?_ | refine z_inc5 d_m_message_77 80 rfl rfl rfl ?_
            refine z_aload_n d_m_message_80 81 rfl rfl rfl ?_
            refine z_iload_n d_m_message_81 82 rfl rfl rfl ?_
            refine z_iload d_m_message_82 84 rfl rfl ?_
            refine z_iload d_m_message_84 86 rfl rfl ?_
            rw [← b4]
            refine zm_cVv (fun a f' => f = f' ∧ mSt (upF As to (addA At bs)) T K dr a) d_m_message_86 89 rfl mv_m_hold kl_m_132 (by decide) (fun Q' hq => c_m_holdS to w50 hto2 hst (by omega) (fun hlt => by rw [hAtt] at hlt ⊢; omega) hsl (fun a h1 h2 h3 => hq _ _ ⟨rfl, by rw [hAtt] at h3; rw [show upF (upF As to At) to (addA At bs) = upF As to (addA At bs) by funext q; unfold upF; split <;> rfl] at h3; exact h3⟩)) rfl rfl (Nat.le_of_ble_eq_true rfl) ?_; rintro x3 _ ⟨rfl, hx3⟩
            first | refine z_incN6 d_m_message_89 92 rfl rfl ?_ | refine z_inc6 d_m_message_89 92 rfl rfl rfl ?_
            refine z_goto (tgt := 13) d_m_message_92 rfl ?_
            exact ih (i + 1) x3 f _ _ _ _ _ (by omega) (by omega) (by omega) hx3 he (fun v hv => by cases hv; rfl)
  exact sends (K to).length 0 va vf b 0 (As to) none none (by omega) hb (Nat.le_refl 0) (by rw [upF_same]; exact h) (by rw [List.drop_zero]; exact hSe.symm) (fun v hv => by cases hv)
end M15
