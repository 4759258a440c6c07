/-! Pure words: bytes (numbers below 256), digests, names, cards. A line is a function g from its places and a length n. Own work. -/
def dgs (d b : Nat) : Nat := (257 * d + b + 1) % 16777213
def dg (d : Nat) (bs : List Nat) : Nat := bs.foldl dgs d
theorem dgs_lt (d b : Nat) : dgs d b < 16777213 := Nat.mod_lt _ (by decide)
theorem dg_lt {d : Nat} (h : d < 16777213) (bs : List Nat) : dg d bs < 16777213 := by
  induction bs generalizing d with
  | nil => exact h
  | cons b t ih => exact ih (dgs_lt d b)
theorem dg_snoc (d : Nat) (bs : List Nat) (b : Nat) : dg d (bs ++ [b]) = dgs (dg d bs) b := by simp [dg]
theorem dg_app (d : Nat) (a b : List Nat) : dg d (a ++ b) = dg (dg d a) b := by simp [dg]
theorem dg_take_succ {bs : List Nat} {j : Nat} (d : Nat) (h : j < bs.length) : dg d (bs.take (j + 1)) = (257 * dg d (bs.take j) + bs.getD j 0 + 1) % 16777213 := by
  rw [List.take_add_one, show bs[j]? = some (bs.getD j 0) by rw [List.getD_eq_getElem?_getD, List.getElem?_eq_getElem h]; rfl]
  rw [show (some (bs.getD j 0)).toList = [bs.getD j 0] from rfl, dg_snoc]
  rfl
def gB (bs : List Nat) (k : Nat) : Nat → Nat := fun i => bs.getD (k + i) 0
/-- c letters from place k on -/
def nmF (g : Nat → Nat) : Nat → Nat → Nat → Option Nat
  | _, 0, v => some v
  | k, c + 1, v => if 97 ≤ g k ∧ g k ≤ 112 then nmF g (k + 1) c (16 * v + (g k - 97)) else none
def nm6 (g : Nat → Nat) (k : Nat) : Option Nat := nmF g k 6 0
theorem nmF_lt (g : Nat → Nat) : ∀ (c k v w : Nat), nmF g k c v = some w → w < 16 ^ c * (v + 1) := by
  intro c
  induction c with
  | zero => intro k v w h; simp [nmF] at h; omega
  | succ c ih =>
    intro k v w h
    simp only [nmF] at h
    split at h
    next hb =>
      have h1 := ih _ _ _ h
      have h2 : 16 * v + (g k - 97) + 1 ≤ 16 * (v + 1) := by omega
      calc w < 16 ^ c * (16 * v + (g k - 97) + 1) := h1
        _ ≤ 16 ^ c * (16 * (v + 1)) := Nat.mul_le_mul_left _ h2
        _ = 16 ^ (c + 1) * (v + 1) := by rw [Nat.pow_succ, Nat.mul_assoc]
    next => cases h
theorem nm6_lt {g : Nat → Nat} {k w : Nat} (h : nm6 g k = some w) : w < 16777216 := by
  have := nmF_lt g 6 k 0 w h
  omega
def isDg (b : Nat) : Bool := decide (48 ≤ b) && decide (b ≤ 57)
/-- are c places from k on digits; their number -/
def dgF (g : Nat → Nat) : Nat → Nat → Bool
  | _, 0 => true
  | k, c + 1 => isDg (g k) && dgF g (k + 1) c
def nuF (g : Nat → Nat) : Nat → Nat → Nat → Nat
  | _, 0, v => v
  | k, c + 1, v => nuF g (k + 1) c (10 * v + (g k - 48))
/-- a card: letter, digit, plus, first name, second name, number -/
abbrev CV : Type := Nat × Nat × Bool × Option Nat × Option Nat × Nat
def cardD (g : Nat → Nat) (n : Nat) : Option CV := if n ≤ 6 ∧ ¬ (3 < n ∧ g 2 = 48) ∧ dgF g 2 (n - 2) = true then some (68, 0, false, none, none, nuF g 2 (n - 2) 0) else none
def card1 (g : Nat → Nat) (n : Nat) : Option CV := if n = 8 then (nm6 g 2).map fun v => (g 0, 0, false, some v, none, 0) else none
def cardF (g : Nat → Nat) (n : Nat) : Option CV := if n = 10 ∧ g 3 = 32 ∧ isDg (g 2) = true then (nm6 g 4).map fun v => (70, g 2 - 48, false, some v, none, 0) else none
def cardP (g : Nat → Nat) (n : Nat) : Option CV :=
  if n = 8 then (nm6 g 2).map fun v => (80, 0, false, some v, none, 0)
  else if n = 15 ∧ g 8 = 32 then (nm6 g 2).bind fun a => (nm6 g 9).bind fun b => if a = b then none else some (80, 0, false, some a, some b, 0)
  else none
def cardT (g : Nat → Nat) (n : Nat) : Option CV :=
  if (n = 6 ∨ n = 11) ∧ (g 2 = 43 ∨ g 2 = 45) ∧ isDg (g 3) = true ∧ g 4 = 32 then
    (if n = 6 then (if g 5 = 42 then some (84, g 3 - 48, decide (g 2 = 43), none, none, 0) else none)
     else (nm6 g 5).map fun v => (84, g 3 - 48, decide (g 2 = 43), some v, none, 0)) else none
def cardB (g : Nat → Nat) (n : Nat) : Option CV :=
  if g 0 = 68 then cardD g n
  else if g 0 = 77 ∨ g 0 = 82 ∨ g 0 = 90 then card1 g n
  else if g 0 = 70 then cardF g n
  else if g 0 = 80 then cardP g n
  else if g 0 = 84 then cardT g n
  else none
def cardG (g : Nat → Nat) (n : Nat) : Option CV := if 3 ≤ n ∧ g 1 = 32 then cardB g n else none
/-- a number that may be none: -1 -/
def oI (r : Option Nat) : Int32 := match r with
  | none => -1
  | some v => nI v
theorem oI_neg : oI none < 0 := by decide
theorem oI_pos {v : Nat} (h : v < 2 ^ 31) : ¬ oI (some v) < 0 := nI_pos h
def zb (b : Bool) : Int32 := if b then nI 1 else nI 0
theorem zb_nar (b : Bool) : narrow .boolean (.int (zb b)) = .int (zb b) := by cases b <;> decide
theorem zb_0 {b : Bool} : zb b = 0 ↔ b = false := by cases b <;> decide
section ZB
variable {l : Launch} {D : zD} {M : zM} {mc ms : Nat} {Q : Option Value → zH → Prop} {hp : zH} {cu su pc : Nat} {lv : List (Option Value)} {rest : List Value}
theorem z_if_eqB {b : Bool} {off : Int} {tgt : Nat} (hd : decode M.2.1 pc = .ok (.ifCond .eq off, 3)) (pc' : Nat) (he : pc + 3 = pc') (ht : (pc : Int) + off = (tgt : Int)) (kt : b = false → Z l D M mc ms Q hp cu su tgt lv rest) (kf : b = true → Z l D M mc ms Q hp cu su pc' lv rest) : Z l D M mc ms Q hp cu su pc lv (.int (zb b) :: rest) :=
  z_if_eq hd pc' he ht (fun h => kt (zb_0.1 h)) (fun h => kf (by cases b with | true => rfl | false => exact absurd (zb_0.2 rfl) h))
theorem z_if_neB {b : Bool} {off : Int} {tgt : Nat} (hd : decode M.2.1 pc = .ok (.ifCond .ne off, 3)) (pc' : Nat) (he : pc + 3 = pc') (ht : (pc : Int) + off = (tgt : Int)) (kt : b = true → Z l D M mc ms Q hp cu su tgt lv rest) (kf : b = false → Z l D M mc ms Q hp cu su pc' lv rest) : Z l D M mc ms Q hp cu su pc lv (.int (zb b) :: rest) :=
  z_if_ne hd pc' he ht (fun h => kt (by cases b with | true => rfl | false => exact absurd (zb_0.2 rfl) h)) (fun h => kf (zb_0.1 h))
theorem z_zretB {b : Bool} (hd : decode M.2.1 pc = .ok (.ireturn, 1)) (hr : M.2.2.2.1 = some .boolean) (hcu : cu ≤ mc) (hsu : su ≤ ms) (hq : Q (some (.int (zb b))) hp) : Z l D M mc ms Q hp cu su pc lv [.int (zb b)] :=
  z_zret hd hr (zb_nar b) hcu hsu hq
/-- a number that may be none, held against 0 -/
theorem z_if_ltO {r : Option Nat} {off : Int} {tgt : Nat} (hd : decode M.2.1 pc = .ok (.ifCond .lt off, 3)) (pc' : Nat) (he : pc + 3 = pc') (ht : (pc : Int) + off = (tgt : Int)) (hb : ∀ v, r = some v → v < 2 ^ 31) (kt : r = none → Z l D M mc ms Q hp cu su tgt lv rest) (kf : ∀ v, r = some v → Z l D M mc ms Q hp cu su pc' lv rest) : Z l D M mc ms Q hp cu su pc lv (.int (oI r) :: rest) :=
  z_if_lt hd pc' he ht (fun h => kt (by cases r with | none => rfl | some v => exact absurd h (oI_pos (hb v rfl)))) (fun h => by cases r with | none => exact absurd oI_neg h | some v => exact kf v rfl)
theorem z_if_geO {r : Option Nat} {off : Int} {tgt : Nat} (hd : decode M.2.1 pc = .ok (.ifCond .ge off, 3)) (pc' : Nat) (he : pc + 3 = pc') (ht : (pc : Int) + off = (tgt : Int)) (hb : ∀ v, r = some v → v < 2 ^ 31) (kt : ∀ v, r = some v → Z l D M mc ms Q hp cu su tgt lv rest) (kf : r = none → Z l D M mc ms Q hp cu su pc' lv rest) : Z l D M mc ms Q hp cu su pc lv (.int (oI r) :: rest) :=
  z_if_ge hd pc' he ht (fun h => by cases r with | none => exact absurd h (by decide) | some v => exact kt v rfl) (fun h => kf (by cases r with | none => rfl | some v => exact absurd (nI_pos' (hb v rfl)) h))
end ZB
