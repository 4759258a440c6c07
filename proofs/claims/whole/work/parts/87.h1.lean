/-! Regions of the heap; sets, histories and bags in their regions. Own work. -/
/-- W tells of which region a cell is (0: it never changes); h' keeps what h has, but for the regions R -/
def stp (R : Nat → Prop) (W : Nat → Nat) (h : zH) (W' : Nat → Nat) (h' : zH) : Prop := ∀ q e, h q = some e → ¬ R (W q) → W' q = W q ∧ h' q = some e
theorem stp.rf (R : Nat → Prop) (W : Nat → Nat) (h : zH) : stp R W h W h := fun _ _ he _ => ⟨rfl, he⟩
theorem stp.tr {R : Nat → Prop} {W W1 W2 : Nat → Nat} {h h1 h2 : zH} (a : stp R W h W1 h1) (b : stp R W1 h1 W2 h2) : stp R W h W2 h2 := by
  intro q e he hr
  obtain ⟨a1, a2⟩ := a q e he hr
  obtain ⟨b1, b2⟩ := b q e a2 (by rw [a1]; exact hr)
  exact ⟨b1.trans a1, b2⟩
theorem stp.wk {R R' : Nat → Prop} {W W' : Nat → Nat} {h h' : zH} (a : stp R W h W' h') (hR : ∀ k, R k → R' k) : stp R' W h W' h' := fun q e he hr => a q e he (fun h1 => hr (hR _ h1))
theorem stp_set {W : Nat → Nat} {h : zH} {o k : Nat} (x : va_E) (hk : W o = k) : stp (· = k) W h W (zset h o x) := by
  intro q e he hr
  refine ⟨rfl, ?_⟩
  rw [zset_ne (fun e => hr (by rw [e]; exact hk))]
  exact he
/-- what is new never changes again -/
def Wx (W : Nat → Nat) (h : zH) : Nat → Nat := fun q => if (h q).isNone = true then 0 else W q
theorem stp_ext {R : Nat → Prop} {W : Nat → Nat} {h h' : zH} (a : ext h h') : stp R W h (Wx W h) h' := by
  intro q e he _
  refine ⟨?_, a q e he⟩
  unfold Wx
  rw [he]
  rfl
theorem crG.to {G G' : Nat → Prop} {D : zD} {h h' : zH} {p : Nat} {cs : List CV} (x : crG G D h p cs) (hh : ∀ q e, G q → h q = some e → G' q ∧ h' q = some e) : crG G' D h' p cs := by
  obtain ⟨f, h0, h1, h2⟩ := x
  exact ⟨f, (hh p _ h0 h1).1, (hh p _ h0 h1).2, fun i c e => by obtain ⟨q, a, g, b⟩ := h2 i c e; exact ⟨q, a, (hh q _ g b).1, (hh q _ g b).2⟩⟩
theorem arG.to {G G' : Nat → Prop} {D : zD} {h h' : zH} {a : Nat} {bs : List Nat} (x : arG G D h a bs) (hh : ∀ q e, G q → h q = some e → G' q ∧ h' q = some e) : arG G' D h' a bs := by
  obtain ⟨b, p, f, h1, h2, h3, h4, h5, h6⟩ := x
  exact ⟨b, p, f, (hh _ _ h1 h2).1, (hh _ _ h1 h2).2, (hh _ _ h3 h4).1, (hh _ _ h3 h4).2, h5, h6.to hh⟩
abbrev G0 (W : Nat → Nat) : Nat → Prop := fun q => W q = 0
theorem stp.g {R : Nat → Prop} {W W' : Nat → Nat} {h h' : zH} (a : stp R W h W' h') (h0 : ¬ R 0) : ∀ q e, G0 W q → h q = some e → G0 W' q ∧ h' q = some e := by
  intro q e hg he
  obtain ⟨a1, a2⟩ := a q e he (by rw [hg]; exact h0)
  exact ⟨a1.trans hg, a2⟩
theorem arG.st {R : Nat → Prop} {W W' : Nat → Nat} {D : zD} {h h' : zH} {a : Nat} {bs : List Nat} (x : arG (G0 W) D h a bs) (s : stp R W h W' h') (h0 : ¬ R 0) : arG (G0 W') D h' a bs := x.to (s.g h0)
theorem asP.st {R : Nat → Prop} {W W' : Nat → Nat} {D : zD} {h h' : zH} {b : Nat} {f : Nat → Option Nat} {L : List (Nat × List Nat)} (x : asP (G0 W) D h b f L) (s : stp R W h W' h') (h0 : ¬ R 0) (hb : ¬ R (W b)) : asP (G0 W') D h' b f L :=
  ⟨(s b _ x.1 hb).2, x.2.1, fun i y hy => ⟨(x.2.2 i y hy).1, (x.2.2 i y hy).2.1, (x.2.2 i y hy).2.2.st s h0⟩⟩
/-- a set in its region -/
def setW (W : Nat → Nat) (D : zD) (h : zH) (k o : Nat) (S : NS) : Prop := ∃ b f, W o = k ∧ W b = k ∧ nsP D h o b S.1 f S.2 ∧ okS S
theorem setW.st {R : Nat → Prop} {W W' : Nat → Nat} {D : zD} {h h' : zH} {k o : Nat} {S : NS} (x : setW W D h k o S) (s : stp R W h W' h') (hk : ¬ R k) : setW W' D h' k o S := by
  obtain ⟨b, f, w1, w2, ⟨n1, n2, n3⟩, ok⟩ := x
  obtain ⟨a1, a2⟩ := s o _ n1 (by rw [w1]; exact hk)
  obtain ⟨b1, b2⟩ := s b _ n2 (by rw [w2]; exact hk)
  exact ⟨b, f, a1.trans w1, b1.trans w2, ⟨a2, b2, n3⟩, ok⟩
/-- a history in its region -/
def hisW (W : Nat → Nat) (D : zD) (h : zH) (k o : Nat) (L : List (Nat × List Nat)) : Prop := ∃ b f, W o = k ∧ W b = k ∧ h o = some (.inr (5, [.ref b, .int (nI L.length)])) ∧ asP (G0 W) D h b f L
theorem hisW.st {R : Nat → Prop} {W W' : Nat → Nat} {D : zD} {h h' : zH} {k o : Nat} {L : List (Nat × List Nat)} (x : hisW W D h k o L) (s : stp R W h W' h') (h0 : ¬ R 0) (hk : ¬ R k) : hisW W' D h' k o L := by
  obtain ⟨b, f, w1, w2, n1, n2⟩ := x
  obtain ⟨a1, a2⟩ := s o _ n1 (by rw [w1]; exact hk)
  obtain ⟨b1, b2⟩ := s b _ n2.1 (by rw [w2]; exact hk)
  exact ⟨b, f, a1.trans w1, b1.trans w2, a2, n2.st s h0 (by rw [w2]; exact hk)⟩
/-- a bag in its five regions: its object o and arrays b; its history hi, its sets mi, cl, as -/
def bgA (W : Nat → Nat) (D : zD) (h : zH) (k o b hi mi cl as : Nat) (V : BV) : Prop := W o = k ∧ W b = k ∧ h o = some (.inr (3, [.ref b, .int (nI V.L.length), .ref hi, .ref mi, .ref cl, .ref as])) ∧ (∃ f, asP (G0 W) D h b f V.L) ∧ hisW W D h (k + 1) hi V.H ∧ setW W D h (k + 2) mi V.m ∧ setW W D h (k + 3) cl V.c ∧ setW W D h (k + 4) as V.a
theorem bgA.wo {W : Nat → Nat} {D : zD} {h : zH} {k o b hi mi cl as : Nat} {V : BV} (x : bgA W D h k o b hi mi cl as V) : W o = k := x.1
theorem bgA.wb {W : Nat → Nat} {D : zD} {h : zH} {k o b hi mi cl as : Nat} {V : BV} (x : bgA W D h k o b hi mi cl as V) : W b = k := x.2.1
theorem bgA.o {W : Nat → Nat} {D : zD} {h : zH} {k o b hi mi cl as : Nat} {V : BV} (x : bgA W D h k o b hi mi cl as V) : h o = some (.inr (3, [.ref b, .int (nI V.L.length), .ref hi, .ref mi, .ref cl, .ref as])) := x.2.2.1
theorem bgA.L {W : Nat → Nat} {D : zD} {h : zH} {k o b hi mi cl as : Nat} {V : BV} (x : bgA W D h k o b hi mi cl as V) : ∃ f, asP (G0 W) D h b f V.L := x.2.2.2.1
theorem bgA.H {W : Nat → Nat} {D : zD} {h : zH} {k o b hi mi cl as : Nat} {V : BV} (x : bgA W D h k o b hi mi cl as V) : hisW W D h (k + 1) hi V.H := x.2.2.2.2.1
theorem bgA.m {W : Nat → Nat} {D : zD} {h : zH} {k o b hi mi cl as : Nat} {V : BV} (x : bgA W D h k o b hi mi cl as V) : setW W D h (k + 2) mi V.m := x.2.2.2.2.2.1
theorem bgA.c {W : Nat → Nat} {D : zD} {h : zH} {k o b hi mi cl as : Nat} {V : BV} (x : bgA W D h k o b hi mi cl as V) : setW W D h (k + 3) cl V.c := x.2.2.2.2.2.2.1
theorem bgA.a {W : Nat → Nat} {D : zD} {h : zH} {k o b hi mi cl as : Nat} {V : BV} (x : bgA W D h k o b hi mi cl as V) : setW W D h (k + 4) as V.a := x.2.2.2.2.2.2.2
def BV.uL (V : BV) (L : List (Nat × List Nat)) : BV := (L, V.H, V.m, V.c, V.a)
def BV.uH (V : BV) (H : List (Nat × List Nat)) : BV := (V.L, H, V.m, V.c, V.a)
def BV.um (V : BV) (S : NS) : BV := (V.L, V.H, S, V.c, V.a)
def BV.uc (V : BV) (S : NS) : BV := (V.L, V.H, V.m, S, V.a)
def BV.ua (V : BV) (S : NS) : BV := (V.L, V.H, V.m, V.c, S)
theorem bgA.st {R : Nat → Prop} {W W' : Nat → Nat} {D : zD} {h h' : zH} {k o b hi mi cl as : Nat} {V : BV} (x : bgA W D h k o b hi mi cl as V) (s : stp R W h W' h') (h0 : ¬ R 0) (hk : ∀ j, j ≤ 4 → ¬ R (k + j)) : bgA W' D h' k o b hi mi cl as V := by
  obtain ⟨f, hf⟩ := x.L
  have e0 : ¬ R k := hk 0 (by omega)
  obtain ⟨a1, a2⟩ := s o _ x.o (by rw [x.wo]; exact e0)
  obtain ⟨b1, b2⟩ := s b _ hf.1 (by rw [x.wb]; exact e0)
  exact ⟨a1.trans x.wo, b1.trans x.wb, a2, ⟨f, hf.st s h0 (by rw [x.wb]; exact e0)⟩, x.H.st s h0 (hk 1 (by omega)), x.m.st s (hk 2 (by omega)), x.c.st s (hk 3 (by omega)), x.a.st s (hk 4 (by omega))⟩
/-- one of a bag's regions has changed -/
theorem bgA.sm {W W' : Nat → Nat} {D : zD} {h h' : zH} {k o b hi mi cl as : Nat} {V : BV} {S : NS} (x : bgA W D h k o b hi mi cl as V) (s : stp (· = k + 2) W h W' h') (y : setW W' D h' (k + 2) mi S) : bgA W' D h' k o b hi mi cl as (V.um S) := by
  obtain ⟨f, hf⟩ := x.L
  have e0 : ¬ k = k + 2 := by omega
  obtain ⟨a1, a2⟩ := s o _ x.o (by rw [x.wo]; exact e0)
  obtain ⟨b1, b2⟩ := s b _ hf.1 (by rw [x.wb]; exact e0)
  exact ⟨a1.trans x.wo, b1.trans x.wb, a2, ⟨f, hf.st s (by omega) (by rw [x.wb]; exact e0)⟩, x.H.st s (by omega) (by omega), y, x.c.st s (by omega), x.a.st s (by omega)⟩
theorem bgA.sc {W W' : Nat → Nat} {D : zD} {h h' : zH} {k o b hi mi cl as : Nat} {V : BV} {S : NS} (x : bgA W D h k o b hi mi cl as V) (s : stp (· = k + 3) W h W' h') (y : setW W' D h' (k + 3) cl S) : bgA W' D h' k o b hi mi cl as (V.uc S) := by
  obtain ⟨f, hf⟩ := x.L
  have e0 : ¬ k = k + 3 := by omega
  obtain ⟨a1, a2⟩ := s o _ x.o (by rw [x.wo]; exact e0)
  obtain ⟨b1, b2⟩ := s b _ hf.1 (by rw [x.wb]; exact e0)
  exact ⟨a1.trans x.wo, b1.trans x.wb, a2, ⟨f, hf.st s (by omega) (by rw [x.wb]; exact e0)⟩, x.H.st s (by omega) (by omega), x.m.st s (by omega), y, x.a.st s (by omega)⟩
theorem bgA.sa {W W' : Nat → Nat} {D : zD} {h h' : zH} {k o b hi mi cl as : Nat} {V : BV} {S : NS} (x : bgA W D h k o b hi mi cl as V) (s : stp (· = k + 4) W h W' h') (y : setW W' D h' (k + 4) as S) : bgA W' D h' k o b hi mi cl as (V.ua S) := by
  obtain ⟨f, hf⟩ := x.L
  have e0 : ¬ k = k + 4 := by omega
  obtain ⟨a1, a2⟩ := s o _ x.o (by rw [x.wo]; exact e0)
  obtain ⟨b1, b2⟩ := s b _ hf.1 (by rw [x.wb]; exact e0)
  exact ⟨a1.trans x.wo, b1.trans x.wb, a2, ⟨f, hf.st s (by omega) (by rw [x.wb]; exact e0)⟩, x.H.st s (by omega) (by omega), x.m.st s (by omega), x.c.st s (by omega), y⟩
theorem bgA.sh {W W' : Nat → Nat} {D : zD} {h h' : zH} {k o b hi mi cl as : Nat} {V : BV} {H : List (Nat × List Nat)} (x : bgA W D h k o b hi mi cl as V) (s : stp (· = k + 1) W h W' h') (y : hisW W' D h' (k + 1) hi H) : bgA W' D h' k o b hi mi cl as (V.uH H) := by
  obtain ⟨f, hf⟩ := x.L
  have e0 : ¬ k = k + 1 := by omega
  obtain ⟨a1, a2⟩ := s o _ x.o (by rw [x.wo]; exact e0)
  obtain ⟨b1, b2⟩ := s b _ hf.1 (by rw [x.wb]; exact e0)
  exact ⟨a1.trans x.wo, b1.trans x.wb, a2, ⟨f, hf.st s (by omega) (by rw [x.wb]; exact e0)⟩, y, x.m.st s (by omega), x.c.st s (by omega), x.a.st s (by omega)⟩
/-- a set's array may have been made anew -/
theorem setW_new {W : Nat → Nat} {D : zD} {h h' : zH} {k o b b' : Nat} {f' : Nat → Int32} {S : NS} (wo : W o = k) (wb : W b = k) (hn : nsP D h' o b' S.1 f' S.2) (ok : okS S) (hb : h b' = none ∨ b' = b) (hfr : ∀ q e, q ≠ o → q ≠ b → h q = some e → h' q = some e) :
    ∃ W', stp (· = k) W h W' h' ∧ setW W' D h' k o S := by
  refine ⟨fun q => if q = b' then k else W q, ?_, ?_⟩
  · intro q e he hr
    have q1 : q ≠ o := fun e => hr (by rw [e]; exact wo)
    have q2 : q ≠ b := fun e => hr (by rw [e]; exact wb)
    have q3 : q ≠ b' := by
      intro e9
      rcases hb with hb | hb
      · rw [e9, hb] at he; cases he
      · exact q2 (e9.trans hb)
    exact ⟨if_neg q3, hfr q e q1 q2 he⟩
  · refine ⟨b', f', ?_, if_pos rfl, hn, ok⟩
    simp only
    split
    · rfl
    · exact wo
theorem insL_S {ns : List Nat} {T v : Nat} (hr : risL ns) (hv : v < 16777216) (hT : plT (nI v) ns T) (hm : ¬ v ∈ ns) : insL ns T v = insS v ns :=
  SS_ext (insL_ris hr hv hT hm).1 (insS_SS v ns hr.1) (fun x => by rw [insL_mem, insS_mem])
theorem delL_S {ns : List Nat} {T : Nat} (hr : risL ns) (hT : T < ns.length) : delL ns T = ns.filter fun x => decide (x ≠ ns.getD T 0) :=
  SS_ext (delL_ris hr).1 (hr.1.filter _) (fun x => by rw [delL_mem hr hT]; simp)
theorem filt_all {ns : List Nat} {v : Nat} (h : ¬ v ∈ ns) : (ns.filter fun x => decide (x ≠ v)) = ns := List.filter_eq_self.2 (fun x hx => by simp; exact fun e => h (e ▸ hx))
