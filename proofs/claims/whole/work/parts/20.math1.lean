/-! Pure words: bytes (numbers below 256), digests, names, lines, cards, sorts. Own work. -/
def dgs (d b : Nat) : Nat := (257 * d + b + 1) % 16777213
def dg (d : Nat) (bs : List Nat) : Nat := bs.foldl dgs d
theorem dgs_lt (d b : Nat) : dgs d b < 16777213 := Nat.mod_lt _ (by decide)
theorem dg_lt {d : Nat} (h : d < 16777213) (bs : List Nat) : dg d bs < 16777213 := by
  induction bs generalizing d with
  | nil => exact h
  | cons b t ih => exact ih (dgs_lt d b)
theorem dg_snoc (d : Nat) (bs : List Nat) (b : Nat) : dg d (bs ++ [b]) = dgs (dg d bs) b := by simp [dg]
theorem dg_app (d : Nat) (a b : List Nat) : dg d (a ++ b) = dg (dg d a) b := by simp [dg]
/-- six letters -/
def nmK : Nat → Nat → List Nat → Option Nat
  | 0, v, _ => some v
  | _ + 1, _, [] => none
  | k + 1, v, b :: t => if 97 ≤ b ∧ b ≤ 112 then nmK k (16 * v + (b - 97)) t else none
def nm6 (l : List Nat) : Option Nat := nmK 6 0 l
theorem nmK_lt : ∀ (k v : Nat) (l : List Nat) (w : Nat), nmK k v l = some w → w < 16 ^ k * (v + 1) := by
  intro k
  induction k with
  | zero => intro v l w h; simp [nmK] at h; omega
  | succ k ih =>
    intro v l w h
    cases l with
    | nil => simp [nmK] at h
    | cons b t =>
      simp only [nmK] at h
      split at h
      next hb =>
        have h1 := ih _ _ _ h
        have h2 : 16 * v + (b - 97) + 1 ≤ 16 * (v + 1) := by omega
        calc w < 16 ^ k * (16 * v + (b - 97) + 1) := h1
          _ ≤ 16 ^ k * (16 * (v + 1)) := Nat.mul_le_mul_left _ h2
          _ = 16 ^ (k + 1) * (v + 1) := by rw [Nat.pow_succ, Nat.mul_assoc]
      next => cases h
theorem nm6_lt {l : List Nat} {w : Nat} (h : nm6 l = some w) : w < 16777216 := by
  have := nmK_lt 6 0 l w h
  omega
def isDg (b : Nat) : Bool := decide (48 ≤ b) && decide (b ≤ 57)
def numv (l : List Nat) : Nat := l.foldl (fun v b => 10 * v + (b - 48)) 0
/-- a card: letter, digit, plus, first name, second name, number -/
abbrev CV : Type := Nat × Nat × Bool × Option Nat × Option Nat × Nat
def cardD (l : List Nat) : Option CV :=
  if l.length ≤ 4 ∧ ¬ (1 < l.length ∧ l.getD 0 0 = 48) ∧ l.all isDg = true then some (68, 0, false, none, none, numv l) else none
def card1 (c : Nat) (l : List Nat) : Option CV := (nm6 l).map fun v => (c, 0, false, some v, none, 0)
def cardF (l : List Nat) : Option CV :=
  if l.getD 3 0 = 32 ∧ isDg (l.getD 2 0) = true then (nm6 (l.drop 4)).map fun v => (70, l.getD 2 0 - 48, false, some v, none, 0) else none
def cardP2 (l : List Nat) : Option CV :=
  if l.getD 8 0 = 32 then (match nm6 (l.drop 2), nm6 (l.drop 9) with
    | some a, some b => if a = b then none else some (80, 0, false, some a, some b, 0)
    | _, _ => none) else none
def cardT (l : List Nat) : Option CV :=
  if (l.getD 2 0 = 43 ∨ l.getD 2 0 = 45) ∧ isDg (l.getD 3 0) = true ∧ l.getD 4 0 = 32 then
    (if l.length = 6 then (if l.getD 5 0 = 42 then some (84, l.getD 3 0 - 48, decide (l.getD 2 0 = 43), none, none, 0) else none)
     else (nm6 (l.drop 5)).map fun v => (84, l.getD 3 0 - 48, decide (l.getD 2 0 = 43), some v, none, 0)) else none
def cardOf (l : List Nat) : Option CV :=
  if l.length < 3 ∨ l.getD 1 0 ≠ 32 then none
  else if l.getD 0 0 = 68 then cardD (l.drop 2)
  else if l.getD 0 0 = 77 ∨ l.getD 0 0 = 82 ∨ l.getD 0 0 = 90 then (if l.length = 8 then card1 (l.getD 0 0) (l.drop 2) else none)
  else if l.getD 0 0 = 70 then (if l.length = 10 then cardF l else none)
  else if l.getD 0 0 = 80 then (if l.length = 8 then card1 80 (l.drop 2) else if l.length = 15 then cardP2 l else none)
  else if l.getD 0 0 = 84 then (if l.length = 6 ∨ l.length = 11 then cardT l else none)
  else none
/-- the lines that a byte 10 ends, and what stands behind the last of these -/
def splitL : List Nat → List (List Nat) × List Nat
  | [] => ([], [])
  | b :: t => if b = 10 then ([] :: (splitL t).1, (splitL t).2) else
    match (splitL t).1 with
    | [] => ([], b :: (splitL t).2)
    | l :: ls => ((b :: l) :: ls, (splitL t).2)
theorem splitL_no : ∀ l : List Nat, 10 ∉ l → splitL l = ([], l) := by
  intro l
  induction l with
  | nil => intro _; rfl
  | cons b t ih =>
    intro h
    have hb : b ≠ 10 := fun e => h (by rw [e]; exact List.mem_cons_self)
    have ht := ih (fun e => h (List.mem_cons_of_mem _ e))
    simp only [splitL, if_neg hb, ht]
theorem splitL_line : ∀ (l t : List Nat), 10 ∉ l → splitL (l ++ 10 :: t) = (l :: (splitL t).1, (splitL t).2) := by
  intro l
  induction l with
  | nil => intro t _; simp only [List.nil_append, splitL, if_true]
  | cons b r ih =>
    intro t h
    have hb : b ≠ 10 := fun e => h (by rw [e]; exact List.mem_cons_self)
    have hr := ih t (fun e => h (List.mem_cons_of_mem _ e))
    simp only [List.cons_append, splitL, if_neg hb, hr]
/-- may card b stand right behind card a -/
def folw (a b : CV) : Bool :=
  if a.1 ≠ b.1 then decide (a.1 < b.1)
  else if b.1 = 70 ∨ b.1 = 84 then decide (a.2.1 < b.2.1)
  else if b.1 = 77 then decide (a.2.2.2.1.getD 0 < b.2.2.2.1.getD 0) else false
def chain : List CV → Bool
  | a :: b :: t => folw a b && chain (b :: t)
  | _ => true
def cnt (c : Nat) (cs : List CV) : Nat := (cs.filter fun x => x.1 = c).length
def stars (cs : List CV) : Nat := (cs.filter fun x => x.1 = 84 ∧ x.2.2.2.1 = none).length
def sortC (cs : List CV) : Nat :=
  if cnt 68 cs = 1 ∧ cnt 82 cs = 1 ∧ cnt 77 cs = 0 ∧ stars cs = cnt 84 cs then 1
  else if cnt 68 cs = 1 ∧ 0 < cnt 84 cs ∧ stars cs = 0 ∧ cs.length = cnt 84 cs + 2 then 2
  else if 0 < cnt 77 cs ∧ cs.length = cnt 77 cs + 1 then 3 else 0
def cardsOf (bs : List Nat) : Option (List CV) := if (splitL bs).2 = [] then (splitL bs).1.mapM cardOf else none
def lastZ (bs : List Nat) (cs : List CV) : Bool := match cs.getLast? with
  | some c => c.1 == 90 && c.2.2.2.1 == some (dg 7 (bs.take (bs.length - 9)))
  | none => false
def sortN (bs : List Nat) : Nat := match cardsOf bs with
  | some cs => if chain cs && lastZ bs cs then sortC cs else 0
  | none => 0
