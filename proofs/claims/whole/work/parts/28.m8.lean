/-! The reference: the sort of a text. Own work. -/
def cnt (c : Nat) (cs : List CV) : Nat := (cs.filter fun x => decide (x.1 = c)).length
def stars (cs : List CV) : Nat := (cs.filter fun x => decide (x.1 = 84) && x.2.2.2.1.isNone).length
theorem cnt_snoc (n : Nat) (cs : List CV) (c : CV) : cnt n (cs ++ [c]) = cnt n cs + (if c.1 = n then 1 else 0) := by
  simp only [cnt, List.filter_append, List.length_append]
  congr 1
  by_cases h : c.1 = n <;> simp [List.filter, h]
theorem stars_snoc (cs : List CV) (c : CV) : stars (cs ++ [c]) = stars cs + (if c.1 = 84 ∧ c.2.2.2.1 = none then 1 else 0) := by
  simp only [stars, List.filter_append, List.length_append]
  congr 1
  by_cases h : c.1 = 84 <;> cases h2 : c.2.2.2.1 <;> simp [List.filter, h, h2]
theorem cnt_le (n : Nat) (cs : List CV) : cnt n cs ≤ cs.length := List.length_filter_le _ _
theorem stars_le (cs : List CV) : stars cs ≤ cs.length := List.length_filter_le _ _
def keyC (c : CV) : Nat := if c.1 = 70 ∨ c.1 = 84 then c.2.1 else if c.1 = 77 then c.2.2.2.1.getD 0 else 0
def grw (c : CV) : Bool := decide (c.1 = 70) || decide (c.1 = 84) || decide (c.1 = 77)
def lastL (cs : List CV) : Nat := match cs.getLast? with
  | none => 0
  | some a => a.1
def lastK (cs : List CV) : Int32 := match cs.getLast? with
  | none => -1
  | some a => nI (keyC a)
def okC (cs : List CV) (c : CV) : Bool := match cs.getLast? with
  | none => true
  | some a => decide (a.1 < c.1) || (decide (a.1 = c.1) && (grw c && decide (keyC a < keyC c)))
def okZ (bs : List Nat) (k : Nat) (c : CV) : Bool := !decide (c.1 = 90) || decide (c.2.2.2.1 = some (dg 7 (bs.take k)))
def wfF (bs : List Nat) : Nat → Nat → List CV → Option (List CV)
  | 0, _, cs => some cs
  | f + 1, k, cs => if k < bs.length then (match rdl bs k with
    | some (e, some c) => if okC cs c && okZ bs k c then wfF bs f e (cs ++ [c]) else none
    | _ => none) else some cs
def wf (bs : List Nat) : Option (List CV) := wfF bs bs.length 0 []
def sortC (cs : List CV) : Nat :=
  if cnt 90 cs = 0 then 0
  else if cnt 68 cs = 1 ∧ cnt 82 cs = 1 ∧ cnt 77 cs = 0 ∧ stars cs = cnt 84 cs then 1
  else if cnt 68 cs = 1 ∧ cnt 84 cs ≠ 0 ∧ stars cs = 0 ∧ cnt 70 cs + cnt 77 cs + cnt 80 cs + cnt 82 cs = 0 then 2
  else if cnt 77 cs ≠ 0 ∧ cnt 68 cs + cnt 70 cs + cnt 80 cs + cnt 82 cs + cnt 84 cs = 0 then 3 else 0
def sortM (bs : List Nat) : Nat := match wf bs with
  | none => 0
  | some cs => sortC cs
theorem keyC_lt {c : CV} (h : cvOk c) : keyC c < 16777216 := by
  unfold keyC
  split
  · have := h.2.2.2.1; omega
  · split
    · cases hx : c.2.2.2.1 with
      | none => simp
      | some v => exact h.2.1 v hx
    · decide
section M8
variable {l : Launch} {D : zD} {hp : zH} {o : Nat} {va : Nat → Nat → Int32} {vf : Nat → Int32} {Q : Option Value → zH → Prop}
set_option maxHeartbeats 1000000 in
theorem c_m_sort (s : Nat) {bs : List Nat} (hr : slotP va s bs) (hs : s < 66)
    (hQ : ∀ f : Nat → Int32, f 9 = vf 9 → Q (some (.int (nI (sortM bs)))) (zmod D o hp va f)) : Runs l D M_m_sort [.ref o, .int (nI s)] (zmod D o hp va vf) 0 0 Q := by
  refine Runs.of rfl rfl (Nat.le_of_ble_eq_true rfl) ?_
  obtain ⟨hr1, hlen, hl⟩ := hr
  have fin : ∀ (cs : List CV) (k : Nat) (f : Nat → Int32) (z1 z2 : Option Value), cs.length ≤ 240 → f 9 = vf 9 → wf bs = some cs → Z l D M_m_sort 0 0 Q (zmod D o hp va f) 0 0 371 [some (.ref o), some (.int (nI s)), some (.int (nI (lastL cs))), some (.int (lastK cs)), some (.int (nI (cnt 68 cs))), some (.int (nI (cnt 70 cs))), some (.int (nI (cnt 77 cs))), some (.int (nI (cnt 80 cs))), some (.int (nI (cnt 82 cs))), some (.int (nI (stars cs))), some (.int (nI (cnt 84 cs))), some (.int (nI (cnt 90 cs))), some (.int (nI k)), z1, z2] [] := by
    intro cs k f z1 z2 hcl hf hw
    have c68 := cnt_le 68 cs
    have c70 := cnt_le 70 cs
    have c77 := cnt_le 77 cs
    have c80 := cnt_le 80 cs
    have c82 := cnt_le 82 cs
    have c84 := cnt_le 84 cs
    have c90 := cnt_le 90 cs
    have cst := stars_le cs
    have q := hQ f hf
    simp only [sortM, hw] at q
    refine z_iload d_m_sort_371 373 rfl rfl ?_
    refine z_if_neN (tgt := 378) d_m_sort_373 376 rfl rfl (by omega) (fun h373 => ?_) (fun h373 => ?_)
    · refine z_iload d_m_sort_378 380 rfl rfl ?_
      refine z_iconst (v := nI 1) d_m_sort_380 381 rfl rfl ?_
      refine z_icmp_neN (tgt := 404) d_m_sort_381 384 rfl rfl (by omega) (by omega) (fun h381 => ?_) (fun h381 => ?_)
      · refine z_iload d_m_sort_404 406 rfl rfl ?_
        refine z_iconst (v := nI 1) d_m_sort_406 407 rfl rfl ?_
        refine z_icmp_neN (tgt := 436) d_m_sort_407 410 rfl rfl (by omega) (by omega) (fun h407 => ?_) (fun h407 => ?_)
        · refine z_iload d_m_sort_436 438 rfl rfl ?_
          refine z_if_leN (tgt := 462) d_m_sort_438 441 rfl rfl (by omega) (fun h438 => ?_) (fun h438 => ?_)
          · refine z_iconst (v := nI 0) d_m_sort_462 463 rfl rfl ?_
            exact z_iret d_m_sort_463 rfl (Nat.le_refl 0) (Nat.le_refl 0) (by first | (exfalso; omega) | (rw [show sortC cs = 0 by (simp only [sortC]; (repeat' split) <;> omega)] at q; exact q))
          · refine z_iload d_m_sort_441 443 rfl rfl ?_
            refine z_iload d_m_sort_443 445 rfl rfl ?_
            first | refine z_iaddN d_m_sort_445 446 rfl ?_ | refine z_iadd d_m_sort_445 446 rfl ?_
            refine z_iload d_m_sort_446 448 rfl rfl ?_
            first | refine z_iaddN d_m_sort_448 449 rfl ?_ | refine z_iadd d_m_sort_448 449 rfl ?_
            refine z_iload d_m_sort_449 451 rfl rfl ?_
            first | refine z_iaddN d_m_sort_451 452 rfl ?_ | refine z_iadd d_m_sort_451 452 rfl ?_
            refine z_iload d_m_sort_452 454 rfl rfl ?_
            first | refine z_iaddN d_m_sort_454 455 rfl ?_ | refine z_iadd d_m_sort_454 455 rfl ?_
            refine z_if_neN (tgt := 462) d_m_sort_455 458 rfl rfl (by omega) (fun h455 => ?_) (fun h455 => ?_)
            · refine z_iconst (v := nI 0) d_m_sort_462 463 rfl rfl ?_
              exact z_iret d_m_sort_463 rfl (Nat.le_refl 0) (Nat.le_refl 0) (by first | (exfalso; omega) | (rw [show sortC cs = 0 by (simp only [sortC]; (repeat' split) <;> omega)] at q; exact q))
            · refine z_iconst (v := nI 3) d_m_sort_458 459 rfl rfl ?_
              refine z_goto (tgt := 463) d_m_sort_459 rfl ?_
              exact z_iret d_m_sort_463 rfl (Nat.le_refl 0) (Nat.le_refl 0) (by first | (exfalso; omega) | (rw [show sortC cs = 3 by (simp only [sortC]; (repeat' split) <;> omega)] at q; exact q))
        · refine z_iload d_m_sort_410 412 rfl rfl ?_
          refine z_if_leN (tgt := 436) d_m_sort_412 415 rfl rfl (by omega) (fun h412 => ?_) (fun h412 => ?_)
          · refine z_iload d_m_sort_436 438 rfl rfl ?_
            refine z_if_leN (tgt := 462) d_m_sort_438 441 rfl rfl (by omega) (fun h438 => ?_) (fun h438 => ?_)
            · refine z_iconst (v := nI 0) d_m_sort_462 463 rfl rfl ?_
              exact z_iret d_m_sort_463 rfl (Nat.le_refl 0) (Nat.le_refl 0) (by first | (exfalso; omega) | (rw [show sortC cs = 0 by (simp only [sortC]; (repeat' split) <;> omega)] at q; exact q))
            · refine z_iload d_m_sort_441 443 rfl rfl ?_
              refine z_iload d_m_sort_443 445 rfl rfl ?_
              first | refine z_iaddN d_m_sort_445 446 rfl ?_ | refine z_iadd d_m_sort_445 446 rfl ?_
              refine z_iload d_m_sort_446 448 rfl rfl ?_
              first | refine z_iaddN d_m_sort_448 449 rfl ?_ | refine z_iadd d_m_sort_448 449 rfl ?_
              refine z_iload d_m_sort_449 451 rfl rfl ?_
              first | refine z_iaddN d_m_sort_451 452 rfl ?_ | refine z_iadd d_m_sort_451 452 rfl ?_
              refine z_iload d_m_sort_452 454 rfl rfl ?_
              first | refine z_iaddN d_m_sort_454 455 rfl ?_ | refine z_iadd d_m_sort_454 455 rfl ?_
              refine z_if_neN (tgt := 462) d_m_sort_455 458 rfl rfl (by omega) (fun h455 => ?_) (fun h455 => ?_)
              · refine z_iconst (v := nI 0) d_m_sort_462 463 rfl rfl ?_
                exact z_iret d_m_sort_463 rfl (Nat.le_refl 0) (Nat.le_refl 0) (by first | (exfalso; omega) | (rw [show sortC cs = 0 by (simp only [sortC]; (repeat' split) <;> omega)] at q; exact q))
              · refine z_iconst (v := nI 3) d_m_sort_458 459 rfl rfl ?_
                refine z_goto (tgt := 463) d_m_sort_459 rfl ?_
                exact z_iret d_m_sort_463 rfl (Nat.le_refl 0) (Nat.le_refl 0) (by first | (exfalso; omega) | (rw [show sortC cs = 3 by (simp only [sortC]; (repeat' split) <;> omega)] at q; exact q))
          · refine z_iload d_m_sort_415 417 rfl rfl ?_
            refine z_if_neN (tgt := 436) d_m_sort_417 420 rfl rfl (by omega) (fun h417 => ?_) (fun h417 => ?_)
            · refine z_iload d_m_sort_436 438 rfl rfl ?_
              refine z_if_leN (tgt := 462) d_m_sort_438 441 rfl rfl (by omega) (fun h438 => ?_) (fun h438 => ?_)
              · refine z_iconst (v := nI 0) d_m_sort_462 463 rfl rfl ?_
                exact z_iret d_m_sort_463 rfl (Nat.le_refl 0) (Nat.le_refl 0) (by first | (exfalso; omega) | (rw [show sortC cs = 0 by (simp only [sortC]; (repeat' split) <;> omega)] at q; exact q))
              · refine z_iload d_m_sort_441 443 rfl rfl ?_
                refine z_iload d_m_sort_443 445 rfl rfl ?_
                first | refine z_iaddN d_m_sort_445 446 rfl ?_ | refine z_iadd d_m_sort_445 446 rfl ?_
                refine z_iload d_m_sort_446 448 rfl rfl ?_
                first | refine z_iaddN d_m_sort_448 449 rfl ?_ | refine z_iadd d_m_sort_448 449 rfl ?_
                refine z_iload d_m_sort_449 451 rfl rfl ?_
                first | refine z_iaddN d_m_sort_451 452 rfl ?_ | refine z_iadd d_m_sort_451 452 rfl ?_
                refine z_iload d_m_sort_452 454 rfl rfl ?_
                first | refine z_iaddN d_m_sort_454 455 rfl ?_ | refine z_iadd d_m_sort_454 455 rfl ?_
                refine z_if_neN (tgt := 462) d_m_sort_455 458 rfl rfl (by omega) (fun h455 => ?_) (fun h455 => ?_)
                · refine z_iconst (v := nI 0) d_m_sort_462 463 rfl rfl ?_
                  exact z_iret d_m_sort_463 rfl (Nat.le_refl 0) (Nat.le_refl 0) (by first | (exfalso; omega) | (rw [show sortC cs = 0 by (simp only [sortC]; (repeat' split) <;> omega)] at q; exact q))
                · refine z_iconst (v := nI 3) d_m_sort_458 459 rfl rfl ?_
                  refine z_goto (tgt := 463) d_m_sort_459 rfl ?_
                  exact z_iret d_m_sort_463 rfl (Nat.le_refl 0) (Nat.le_refl 0) (by first | (exfalso; omega) | (rw [show sortC cs = 3 by (simp only [sortC]; (repeat' split) <;> omega)] at q; exact q))
            · refine z_iload d_m_sort_420 422 rfl rfl ?_
              refine z_iload d_m_sort_422 424 rfl rfl ?_
              first | refine z_iaddN d_m_sort_424 425 rfl ?_ | refine z_iadd d_m_sort_424 425 rfl ?_
              refine z_iload d_m_sort_425 427 rfl rfl ?_
              first | refine z_iaddN d_m_sort_427 428 rfl ?_ | refine z_iadd d_m_sort_427 428 rfl ?_
              refine z_iload d_m_sort_428 430 rfl rfl ?_
              first | refine z_iaddN d_m_sort_430 431 rfl ?_ | refine z_iadd d_m_sort_430 431 rfl ?_
              refine z_if_neN (tgt := 436) d_m_sort_431 434 rfl rfl (by omega) (fun h431 => ?_) (fun h431 => ?_)
              · refine z_iload d_m_sort_436 438 rfl rfl ?_
                refine z_if_leN (tgt := 462) d_m_sort_438 441 rfl rfl (by omega) (fun h438 => ?_) (fun h438 => ?_)
                · refine z_iconst (v := nI 0) d_m_sort_462 463 rfl rfl ?_
                  exact z_iret d_m_sort_463 rfl (Nat.le_refl 0) (Nat.le_refl 0) (by first | (exfalso; omega) | (rw [show sortC cs = 0 by (simp only [sortC]; (repeat' split) <;> omega)] at q; exact q))
                · refine z_iload d_m_sort_441 443 rfl rfl ?_
                  refine z_iload d_m_sort_443 445 rfl rfl ?_
                  first | refine z_iaddN d_m_sort_445 446 rfl ?_ | refine z_iadd d_m_sort_445 446 rfl ?_
                  refine z_iload d_m_sort_446 448 rfl rfl ?_
                  first | refine z_iaddN d_m_sort_448 449 rfl ?_ | refine z_iadd d_m_sort_448 449 rfl ?_
                  refine z_iload d_m_sort_449 451 rfl rfl ?_
                  first | refine z_iaddN d_m_sort_451 452 rfl ?_ | refine z_iadd d_m_sort_451 452 rfl ?_
                  refine z_iload d_m_sort_452 454 rfl rfl ?_
                  first | refine z_iaddN d_m_sort_454 455 rfl ?_ | refine z_iadd d_m_sort_454 455 rfl ?_
                  refine z_if_neN (tgt := 462) d_m_sort_455 458 rfl rfl (by omega) (fun h455 => ?_) (fun h455 => ?_)
                  · refine z_iconst (v := nI 0) d_m_sort_462 463 rfl rfl ?_
                    exact z_iret d_m_sort_463 rfl (Nat.le_refl 0) (Nat.le_refl 0) (by first | (exfalso; omega) | (rw [show sortC cs = 0 by (simp only [sortC]; (repeat' split) <;> omega)] at q; exact q))
                  · refine z_iconst (v := nI 3) d_m_sort_458 459 rfl rfl ?_
                    refine z_goto (tgt := 463) d_m_sort_459 rfl ?_
                    exact z_iret d_m_sort_463 rfl (Nat.le_refl 0) (Nat.le_refl 0) (by first | (exfalso; omega) | (rw [show sortC cs = 3 by (simp only [sortC]; (repeat' split) <;> omega)] at q; exact q))
              · refine z_iconst (v := nI 2) d_m_sort_434 435 rfl rfl ?_
                exact z_iret d_m_sort_435 rfl (Nat.le_refl 0) (Nat.le_refl 0) (by first | (exfalso; omega) | (rw [show sortC cs = 2 by (simp only [sortC]; (repeat' split) <;> omega)] at q; exact q))
      · refine z_iload d_m_sort_384 386 rfl rfl ?_
        refine z_iconst (v := nI 1) d_m_sort_386 387 rfl rfl ?_
        refine z_icmp_neN (tgt := 404) d_m_sort_387 390 rfl rfl (by omega) (by omega) (fun h387 => ?_) (fun h387 => ?_)
        · refine z_iload d_m_sort_404 406 rfl rfl ?_
          refine z_iconst (v := nI 1) d_m_sort_406 407 rfl rfl ?_
          refine z_icmp_neN (tgt := 436) d_m_sort_407 410 rfl rfl (by omega) (by omega) (fun h407 => ?_) (fun h407 => ?_)
          · refine z_iload d_m_sort_436 438 rfl rfl ?_
            refine z_if_leN (tgt := 462) d_m_sort_438 441 rfl rfl (by omega) (fun h438 => ?_) (fun h438 => ?_)
            · refine z_iconst (v := nI 0) d_m_sort_462 463 rfl rfl ?_
              exact z_iret d_m_sort_463 rfl (Nat.le_refl 0) (Nat.le_refl 0) (by first | (exfalso; omega) | (rw [show sortC cs = 0 by (simp only [sortC]; (repeat' split) <;> omega)] at q; exact q))
            · refine z_iload d_m_sort_441 443 rfl rfl ?_
              refine z_iload d_m_sort_443 445 rfl rfl ?_
              first | refine z_iaddN d_m_sort_445 446 rfl ?_ | refine z_iadd d_m_sort_445 446 rfl ?_
              refine z_iload d_m_sort_446 448 rfl rfl ?_
              first | refine z_iaddN d_m_sort_448 449 rfl ?_ | refine z_iadd d_m_sort_448 449 rfl ?_
              refine z_iload d_m_sort_449 451 rfl rfl ?_
              first | refine z_iaddN d_m_sort_451 452 rfl ?_ | refine z_iadd d_m_sort_451 452 rfl ?_
              refine z_iload d_m_sort_452 454 rfl rfl ?_
              first | refine z_iaddN d_m_sort_454 455 rfl ?_ | refine z_iadd d_m_sort_454 455 rfl ?_
              refine z_if_neN (tgt := 462) d_m_sort_455 458 rfl rfl (by omega) (fun h455 => ?_) (fun h455 => ?_)
              · refine z_iconst (v := nI 0) d_m_sort_462 463 rfl rfl ?_
                exact z_iret d_m_sort_463 rfl (Nat.le_refl 0) (Nat.le_refl 0) (by first | (exfalso; omega) | (rw [show sortC cs = 0 by (simp only [sortC]; (repeat' split) <;> omega)] at q; exact q))
              · refine z_iconst (v := nI 3) d_m_sort_458 459 rfl rfl ?_
                refine z_goto (tgt := 463) d_m_sort_459 rfl ?_
                exact z_iret d_m_sort_463 rfl (Nat.le_refl 0) (Nat.le_refl 0) (by first | (exfalso; omega) | (rw [show sortC cs = 3 by (simp only [sortC]; (repeat' split) <;> omega)] at q; exact q))
          · refine z_iload d_m_sort_410 412 rfl rfl ?_
            refine z_if_leN (tgt := 436) d_m_sort_412 415 rfl rfl (by omega) (fun h412 => ?_) (fun h412 => ?_)
            · refine z_iload d_m_sort_436 438 rfl rfl ?_
              refine z_if_leN (tgt := 462) d_m_sort_438 441 rfl rfl (by omega) (fun h438 => ?_) (fun h438 => ?_)
              · refine z_iconst (v := nI 0) d_m_sort_462 463 rfl rfl ?_
                exact z_iret d_m_sort_463 rfl (Nat.le_refl 0) (Nat.le_refl 0) (by first | (exfalso; omega) | (rw [show sortC cs = 0 by (simp only [sortC]; (repeat' split) <;> omega)] at q; exact q))
              · refine z_iload d_m_sort_441 443 rfl rfl ?_
                refine z_iload d_m_sort_443 445 rfl rfl ?_
                first | refine z_iaddN d_m_sort_445 446 rfl ?_ | refine z_iadd d_m_sort_445 446 rfl ?_
                refine z_iload d_m_sort_446 448 rfl rfl ?_
                first | refine z_iaddN d_m_sort_448 449 rfl ?_ | refine z_iadd d_m_sort_448 449 rfl ?_
                refine z_iload d_m_sort_449 451 rfl rfl ?_
                first | refine z_iaddN d_m_sort_451 452 rfl ?_ | refine z_iadd d_m_sort_451 452 rfl ?_
                refine z_iload d_m_sort_452 454 rfl rfl ?_
                first | refine z_iaddN d_m_sort_454 455 rfl ?_ | refine z_iadd d_m_sort_454 455 rfl ?_
                refine z_if_neN (tgt := 462) d_m_sort_455 458 rfl rfl (by omega) (fun h455 => ?_) (fun h455 => ?_)
                · refine z_iconst (v := nI 0) d_m_sort_462 463 rfl rfl ?_
                  exact z_iret d_m_sort_463 rfl (Nat.le_refl 0) (Nat.le_refl 0) (by first | (exfalso; omega) | (rw [show sortC cs = 0 by (simp only [sortC]; (repeat' split) <;> omega)] at q; exact q))
                · refine z_iconst (v := nI 3) d_m_sort_458 459 rfl rfl ?_
                  refine z_goto (tgt := 463) d_m_sort_459 rfl ?_
                  exact z_iret d_m_sort_463 rfl (Nat.le_refl 0) (Nat.le_refl 0) (by first | (exfalso; omega) | (rw [show sortC cs = 3 by (simp only [sortC]; (repeat' split) <;> omega)] at q; exact q))
            · refine z_iload d_m_sort_415 417 rfl rfl ?_
              refine z_if_neN (tgt := 436) d_m_sort_417 420 rfl rfl (by omega) (fun h417 => ?_) (fun h417 => ?_)
              · refine z_iload d_m_sort_436 438 rfl rfl ?_
                refine z_if_leN (tgt := 462) d_m_sort_438 441 rfl rfl (by omega) (fun h438 => ?_) (fun h438 => ?_)
                · refine z_iconst (v := nI 0) d_m_sort_462 463 rfl rfl ?_
                  exact z_iret d_m_sort_463 rfl (Nat.le_refl 0) (Nat.le_refl 0) (by first | (exfalso; omega) | (rw [show sortC cs = 0 by (simp only [sortC]; (repeat' split) <;> omega)] at q; exact q))
                · refine z_iload d_m_sort_441 443 rfl rfl ?_
                  refine z_iload d_m_sort_443 445 rfl rfl ?_
                  first | refine z_iaddN d_m_sort_445 446 rfl ?_ | refine z_iadd d_m_sort_445 446 rfl ?_
                  refine z_iload d_m_sort_446 448 rfl rfl ?_
                  first | refine z_iaddN d_m_sort_448 449 rfl ?_ | refine z_iadd d_m_sort_448 449 rfl ?_
                  refine z_iload d_m_sort_449 451 rfl rfl ?_
                  first | refine z_iaddN d_m_sort_451 452 rfl ?_ | refine z_iadd d_m_sort_451 452 rfl ?_
                  refine z_iload d_m_sort_452 454 rfl rfl ?_
                  first | refine z_iaddN d_m_sort_454 455 rfl ?_ | refine z_iadd d_m_sort_454 455 rfl ?_
                  refine z_if_neN (tgt := 462) d_m_sort_455 458 rfl rfl (by omega) (fun h455 => ?_) (fun h455 => ?_)
                  · refine z_iconst (v := nI 0) d_m_sort_462 463 rfl rfl ?_
                    exact z_iret d_m_sort_463 rfl (Nat.le_refl 0) (Nat.le_refl 0) (by first | (exfalso; omega) | (rw [show sortC cs = 0 by (simp only [sortC]; (repeat' split) <;> omega)] at q; exact q))
                  · refine z_iconst (v := nI 3) d_m_sort_458 459 rfl rfl ?_
                    refine z_goto (tgt := 463) d_m_sort_459 rfl ?_
                    exact z_iret d_m_sort_463 rfl (Nat.le_refl 0) (Nat.le_refl 0) (by first | (exfalso; omega) | (rw [show sortC cs = 3 by (simp only [sortC]; (repeat' split) <;> omega)] at q; exact q))
              · refine z_iload d_m_sort_420 422 rfl rfl ?_
                refine z_iload d_m_sort_422 424 rfl rfl ?_
                first | refine z_iaddN d_m_sort_424 425 rfl ?_ | refine z_iadd d_m_sort_424 425 rfl ?_
                refine z_iload d_m_sort_425 427 rfl rfl ?_
                first | refine z_iaddN d_m_sort_427 428 rfl ?_ | refine z_iadd d_m_sort_427 428 rfl ?_
                refine z_iload d_m_sort_428 430 rfl rfl ?_
                first | refine z_iaddN d_m_sort_430 431 rfl ?_ | refine z_iadd d_m_sort_430 431 rfl ?_
                refine z_if_neN (tgt := 436) d_m_sort_431 434 rfl rfl (by omega) (fun h431 => ?_) (fun h431 => ?_)
                · refine z_iload d_m_sort_436 438 rfl rfl ?_
                  refine z_if_leN (tgt := 462) d_m_sort_438 441 rfl rfl (by omega) (fun h438 => ?_) (fun h438 => ?_)
                  · refine z_iconst (v := nI 0) d_m_sort_462 463 rfl rfl ?_
                    exact z_iret d_m_sort_463 rfl (Nat.le_refl 0) (Nat.le_refl 0) (by first | (exfalso; omega) | (rw [show sortC cs = 0 by (simp only [sortC]; (repeat' split) <;> omega)] at q; exact q))
                  · refine z_iload d_m_sort_441 443 rfl rfl ?_
                    refine z_iload d_m_sort_443 445 rfl rfl ?_
                    first | refine z_iaddN d_m_sort_445 446 rfl ?_ | refine z_iadd d_m_sort_445 446 rfl ?_
                    refine z_iload d_m_sort_446 448 rfl rfl ?_
                    first | refine z_iaddN d_m_sort_448 449 rfl ?_ | refine z_iadd d_m_sort_448 449 rfl ?_
                    refine z_iload d_m_sort_449 451 rfl rfl ?_
                    first | refine z_iaddN d_m_sort_451 452 rfl ?_ | refine z_iadd d_m_sort_451 452 rfl ?_
                    refine z_iload d_m_sort_452 454 rfl rfl ?_
                    first | refine z_iaddN d_m_sort_454 455 rfl ?_ | refine z_iadd d_m_sort_454 455 rfl ?_
                    refine z_if_neN (tgt := 462) d_m_sort_455 458 rfl rfl (by omega) (fun h455 => ?_) (fun h455 => ?_)
                    · refine z_iconst (v := nI 0) d_m_sort_462 463 rfl rfl ?_
                      exact z_iret d_m_sort_463 rfl (Nat.le_refl 0) (Nat.le_refl 0) (by first | (exfalso; omega) | (rw [show sortC cs = 0 by (simp only [sortC]; (repeat' split) <;> omega)] at q; exact q))
                    · refine z_iconst (v := nI 3) d_m_sort_458 459 rfl rfl ?_
                      refine z_goto (tgt := 463) d_m_sort_459 rfl ?_
                      exact z_iret d_m_sort_463 rfl (Nat.le_refl 0) (Nat.le_refl 0) (by first | (exfalso; omega) | (rw [show sortC cs = 3 by (simp only [sortC]; (repeat' split) <;> omega)] at q; exact q))
                · refine z_iconst (v := nI 2) d_m_sort_434 435 rfl rfl ?_
                  exact z_iret d_m_sort_435 rfl (Nat.le_refl 0) (Nat.le_refl 0) (by first | (exfalso; omega) | (rw [show sortC cs = 2 by (simp only [sortC]; (repeat' split) <;> omega)] at q; exact q))
        · refine z_iload d_m_sort_390 392 rfl rfl ?_
          refine z_if_neN (tgt := 404) d_m_sort_392 395 rfl rfl (by omega) (fun h392 => ?_) (fun h392 => ?_)
          · refine z_iload d_m_sort_404 406 rfl rfl ?_
            refine z_iconst (v := nI 1) d_m_sort_406 407 rfl rfl ?_
            refine z_icmp_neN (tgt := 436) d_m_sort_407 410 rfl rfl (by omega) (by omega) (fun h407 => ?_) (fun h407 => ?_)
            · refine z_iload d_m_sort_436 438 rfl rfl ?_
              refine z_if_leN (tgt := 462) d_m_sort_438 441 rfl rfl (by omega) (fun h438 => ?_) (fun h438 => ?_)
              · refine z_iconst (v := nI 0) d_m_sort_462 463 rfl rfl ?_
                exact z_iret d_m_sort_463 rfl (Nat.le_refl 0) (Nat.le_refl 0) (by first | (exfalso; omega) | (rw [show sortC cs = 0 by (simp only [sortC]; (repeat' split) <;> omega)] at q; exact q))
              · refine z_iload d_m_sort_441 443 rfl rfl ?_
                refine z_iload d_m_sort_443 445 rfl rfl ?_
                first | refine z_iaddN d_m_sort_445 446 rfl ?_ | refine z_iadd d_m_sort_445 446 rfl ?_
                refine z_iload d_m_sort_446 448 rfl rfl ?_
                first | refine z_iaddN d_m_sort_448 449 rfl ?_ | refine z_iadd d_m_sort_448 449 rfl ?_
                refine z_iload d_m_sort_449 451 rfl rfl ?_
                first | refine z_iaddN d_m_sort_451 452 rfl ?_ | refine z_iadd d_m_sort_451 452 rfl ?_
                refine z_iload d_m_sort_452 454 rfl rfl ?_
                first | refine z_iaddN d_m_sort_454 455 rfl ?_ | refine z_iadd d_m_sort_454 455 rfl ?_
                refine z_if_neN (tgt := 462) d_m_sort_455 458 rfl rfl (by omega) (fun h455 => ?_) (fun h455 => ?_)
                · refine z_iconst (v := nI 0) d_m_sort_462 463 rfl rfl ?_
                  exact z_iret d_m_sort_463 rfl (Nat.le_refl 0) (Nat.le_refl 0) (by first | (exfalso; omega) | (rw [show sortC cs = 0 by (simp only [sortC]; (repeat' split) <;> omega)] at q; exact q))
                · refine z_iconst (v := nI 3) d_m_sort_458 459 rfl rfl ?_
                  refine z_goto (tgt := 463) d_m_sort_459 rfl ?_
                  exact z_iret d_m_sort_463 rfl (Nat.le_refl 0) (Nat.le_refl 0) (by first | (exfalso; omega) | (rw [show sortC cs = 3 by (simp only [sortC]; (repeat' split) <;> omega)] at q; exact q))
            · refine z_iload d_m_sort_410 412 rfl rfl ?_
              refine z_if_leN (tgt := 436) d_m_sort_412 415 rfl rfl (by omega) (fun h412 => ?_) (fun h412 => ?_)
              · refine z_iload d_m_sort_436 438 rfl rfl ?_
                refine z_if_leN (tgt := 462) d_m_sort_438 441 rfl rfl (by omega) (fun h438 => ?_) (fun h438 => ?_)
                · refine z_iconst (v := nI 0) d_m_sort_462 463 rfl rfl ?_
                  exact z_iret d_m_sort_463 rfl (Nat.le_refl 0) (Nat.le_refl 0) (by first | (exfalso; omega) | (rw [show sortC cs = 0 by (simp only [sortC]; (repeat' split) <;> omega)] at q; exact q))
                · refine z_iload d_m_sort_441 443 rfl rfl ?_
                  refine z_iload d_m_sort_443 445 rfl rfl ?_
                  first | refine z_iaddN d_m_sort_445 446 rfl ?_ | refine z_iadd d_m_sort_445 446 rfl ?_
                  refine z_iload d_m_sort_446 448 rfl rfl ?_
                  first | refine z_iaddN d_m_sort_448 449 rfl ?_ | refine z_iadd d_m_sort_448 449 rfl ?_
                  refine z_iload d_m_sort_449 451 rfl rfl ?_
                  first | refine z_iaddN d_m_sort_451 452 rfl ?_ | refine z_iadd d_m_sort_451 452 rfl ?_
                  refine z_iload d_m_sort_452 454 rfl rfl ?_
                  first | refine z_iaddN d_m_sort_454 455 rfl ?_ | refine z_iadd d_m_sort_454 455 rfl ?_
                  refine z_if_neN (tgt := 462) d_m_sort_455 458 rfl rfl (by omega) (fun h455 => ?_) (fun h455 => ?_)
                  · refine z_iconst (v := nI 0) d_m_sort_462 463 rfl rfl ?_
                    exact z_iret d_m_sort_463 rfl (Nat.le_refl 0) (Nat.le_refl 0) (by first | (exfalso; omega) | (rw [show sortC cs = 0 by (simp only [sortC]; (repeat' split) <;> omega)] at q; exact q))
                  · refine z_iconst (v := nI 3) d_m_sort_458 459 rfl rfl ?_
                    refine z_goto (tgt := 463) d_m_sort_459 rfl ?_
                    exact z_iret d_m_sort_463 rfl (Nat.le_refl 0) (Nat.le_refl 0) (by first | (exfalso; omega) | (rw [show sortC cs = 3 by (simp only [sortC]; (repeat' split) <;> omega)] at q; exact q))
              · refine z_iload d_m_sort_415 417 rfl rfl ?_
                refine z_if_neN (tgt := 436) d_m_sort_417 420 rfl rfl (by omega) (fun h417 => ?_) (fun h417 => ?_)
                · refine z_iload d_m_sort_436 438 rfl rfl ?_
                  refine z_if_leN (tgt := 462) d_m_sort_438 441 rfl rfl (by omega) (fun h438 => ?_) (fun h438 => ?_)
                  · refine z_iconst (v := nI 0) d_m_sort_462 463 rfl rfl ?_
                    exact z_iret d_m_sort_463 rfl (Nat.le_refl 0) (Nat.le_refl 0) (by first | (exfalso; omega) | (rw [show sortC cs = 0 by (simp only [sortC]; (repeat' split) <;> omega)] at q; exact q))
                  · refine z_iload d_m_sort_441 443 rfl rfl ?_
                    refine z_iload d_m_sort_443 445 rfl rfl ?_
                    first | refine z_iaddN d_m_sort_445 446 rfl ?_ | refine z_iadd d_m_sort_445 446 rfl ?_
                    refine z_iload d_m_sort_446 448 rfl rfl ?_
                    first | refine z_iaddN d_m_sort_448 449 rfl ?_ | refine z_iadd d_m_sort_448 449 rfl ?_
                    refine z_iload d_m_sort_449 451 rfl rfl ?_
                    first | refine z_iaddN d_m_sort_451 452 rfl ?_ | refine z_iadd d_m_sort_451 452 rfl ?_
                    refine z_iload d_m_sort_452 454 rfl rfl ?_
                    first | refine z_iaddN d_m_sort_454 455 rfl ?_ | refine z_iadd d_m_sort_454 455 rfl ?_
                    refine z_if_neN (tgt := 462) d_m_sort_455 458 rfl rfl (by omega) (fun h455 => ?_) (fun h455 => ?_)
                    · refine z_iconst (v := nI 0) d_m_sort_462 463 rfl rfl ?_
                      exact z_iret d_m_sort_463 rfl (Nat.le_refl 0) (Nat.le_refl 0) (by first | (exfalso; omega) | (rw [show sortC cs = 0 by (simp only [sortC]; (repeat' split) <;> omega)] at q; exact q))
                    · refine z_iconst (v := nI 3) d_m_sort_458 459 rfl rfl ?_
                      refine z_goto (tgt := 463) d_m_sort_459 rfl ?_
                      exact z_iret d_m_sort_463 rfl (Nat.le_refl 0) (Nat.le_refl 0) (by first | (exfalso; omega) | (rw [show sortC cs = 3 by (simp only [sortC]; (repeat' split) <;> omega)] at q; exact q))
                · refine z_iload d_m_sort_420 422 rfl rfl ?_
                  refine z_iload d_m_sort_422 424 rfl rfl ?_
                  first | refine z_iaddN d_m_sort_424 425 rfl ?_ | refine z_iadd d_m_sort_424 425 rfl ?_
                  refine z_iload d_m_sort_425 427 rfl rfl ?_
                  first | refine z_iaddN d_m_sort_427 428 rfl ?_ | refine z_iadd d_m_sort_427 428 rfl ?_
                  refine z_iload d_m_sort_428 430 rfl rfl ?_
                  first | refine z_iaddN d_m_sort_430 431 rfl ?_ | refine z_iadd d_m_sort_430 431 rfl ?_
                  refine z_if_neN (tgt := 436) d_m_sort_431 434 rfl rfl (by omega) (fun h431 => ?_) (fun h431 => ?_)
                  · refine z_iload d_m_sort_436 438 rfl rfl ?_
                    refine z_if_leN (tgt := 462) d_m_sort_438 441 rfl rfl (by omega) (fun h438 => ?_) (fun h438 => ?_)
                    · refine z_iconst (v := nI 0) d_m_sort_462 463 rfl rfl ?_
                      exact z_iret d_m_sort_463 rfl (Nat.le_refl 0) (Nat.le_refl 0) (by first | (exfalso; omega) | (rw [show sortC cs = 0 by (simp only [sortC]; (repeat' split) <;> omega)] at q; exact q))
                    · refine z_iload d_m_sort_441 443 rfl rfl ?_
                      refine z_iload d_m_sort_443 445 rfl rfl ?_
                      first | refine z_iaddN d_m_sort_445 446 rfl ?_ | refine z_iadd d_m_sort_445 446 rfl ?_
                      refine z_iload d_m_sort_446 448 rfl rfl ?_
                      first | refine z_iaddN d_m_sort_448 449 rfl ?_ | refine z_iadd d_m_sort_448 449 rfl ?_
                      refine z_iload d_m_sort_449 451 rfl rfl ?_
                      first | refine z_iaddN d_m_sort_451 452 rfl ?_ | refine z_iadd d_m_sort_451 452 rfl ?_
                      refine z_iload d_m_sort_452 454 rfl rfl ?_
                      first | refine z_iaddN d_m_sort_454 455 rfl ?_ | refine z_iadd d_m_sort_454 455 rfl ?_
                      refine z_if_neN (tgt := 462) d_m_sort_455 458 rfl rfl (by omega) (fun h455 => ?_) (fun h455 => ?_)
                      · refine z_iconst (v := nI 0) d_m_sort_462 463 rfl rfl ?_
                        exact z_iret d_m_sort_463 rfl (Nat.le_refl 0) (Nat.le_refl 0) (by first | (exfalso; omega) | (rw [show sortC cs = 0 by (simp only [sortC]; (repeat' split) <;> omega)] at q; exact q))
                      · refine z_iconst (v := nI 3) d_m_sort_458 459 rfl rfl ?_
                        refine z_goto (tgt := 463) d_m_sort_459 rfl ?_
                        exact z_iret d_m_sort_463 rfl (Nat.le_refl 0) (Nat.le_refl 0) (by first | (exfalso; omega) | (rw [show sortC cs = 3 by (simp only [sortC]; (repeat' split) <;> omega)] at q; exact q))
                  · refine z_iconst (v := nI 2) d_m_sort_434 435 rfl rfl ?_
                    exact z_iret d_m_sort_435 rfl (Nat.le_refl 0) (Nat.le_refl 0) (by first | (exfalso; omega) | (rw [show sortC cs = 2 by (simp only [sortC]; (repeat' split) <;> omega)] at q; exact q))
          · refine z_iload d_m_sort_395 397 rfl rfl ?_
            refine z_iload d_m_sort_397 399 rfl rfl ?_
            refine z_icmp_neN (tgt := 404) d_m_sort_399 402 rfl rfl (by omega) (by omega) (fun h399 => ?_) (fun h399 => ?_)
            · refine z_iload d_m_sort_404 406 rfl rfl ?_
              refine z_iconst (v := nI 1) d_m_sort_406 407 rfl rfl ?_
              refine z_icmp_neN (tgt := 436) d_m_sort_407 410 rfl rfl (by omega) (by omega) (fun h407 => ?_) (fun h407 => ?_)
              · refine z_iload d_m_sort_436 438 rfl rfl ?_
                refine z_if_leN (tgt := 462) d_m_sort_438 441 rfl rfl (by omega) (fun h438 => ?_) (fun h438 => ?_)
                · refine z_iconst (v := nI 0) d_m_sort_462 463 rfl rfl ?_
                  exact z_iret d_m_sort_463 rfl (Nat.le_refl 0) (Nat.le_refl 0) (by first | (exfalso; omega) | (rw [show sortC cs = 0 by (simp only [sortC]; (repeat' split) <;> omega)] at q; exact q))
                · refine z_iload d_m_sort_441 443 rfl rfl ?_
                  refine z_iload d_m_sort_443 445 rfl rfl ?_
                  first | refine z_iaddN d_m_sort_445 446 rfl ?_ | refine z_iadd d_m_sort_445 446 rfl ?_
                  refine z_iload d_m_sort_446 448 rfl rfl ?_
                  first | refine z_iaddN d_m_sort_448 449 rfl ?_ | refine z_iadd d_m_sort_448 449 rfl ?_
                  refine z_iload d_m_sort_449 451 rfl rfl ?_
                  first | refine z_iaddN d_m_sort_451 452 rfl ?_ | refine z_iadd d_m_sort_451 452 rfl ?_
                  refine z_iload d_m_sort_452 454 rfl rfl ?_
                  first | refine z_iaddN d_m_sort_454 455 rfl ?_ | refine z_iadd d_m_sort_454 455 rfl ?_
                  refine z_if_neN (tgt := 462) d_m_sort_455 458 rfl rfl (by omega) (fun h455 => ?_) (fun h455 => ?_)
                  · refine z_iconst (v := nI 0) d_m_sort_462 463 rfl rfl ?_
                    exact z_iret d_m_sort_463 rfl (Nat.le_refl 0) (Nat.le_refl 0) (by first | (exfalso; omega) | (rw [show sortC cs = 0 by (simp only [sortC]; (repeat' split) <;> omega)] at q; exact q))
                  · refine z_iconst (v := nI 3) d_m_sort_458 459 rfl rfl ?_
                    refine z_goto (tgt := 463) d_m_sort_459 rfl ?_
                    exact z_iret d_m_sort_463 rfl (Nat.le_refl 0) (Nat.le_refl 0) (by first | (exfalso; omega) | (rw [show sortC cs = 3 by (simp only [sortC]; (repeat' split) <;> omega)] at q; exact q))
              · refine z_iload d_m_sort_410 412 rfl rfl ?_
                refine z_if_leN (tgt := 436) d_m_sort_412 415 rfl rfl (by omega) (fun h412 => ?_) (fun h412 => ?_)
                · refine z_iload d_m_sort_436 438 rfl rfl ?_
                  refine z_if_leN (tgt := 462) d_m_sort_438 441 rfl rfl (by omega) (fun h438 => ?_) (fun h438 => ?_)
                  · refine z_iconst (v := nI 0) d_m_sort_462 463 rfl rfl ?_
                    exact z_iret d_m_sort_463 rfl (Nat.le_refl 0) (Nat.le_refl 0) (by first | (exfalso; omega) | (rw [show sortC cs = 0 by (simp only [sortC]; (repeat' split) <;> omega)] at q; exact q))
                  · refine z_iload d_m_sort_441 443 rfl rfl ?_
                    refine z_iload d_m_sort_443 445 rfl rfl ?_
                    first | refine z_iaddN d_m_sort_445 446 rfl ?_ | refine z_iadd d_m_sort_445 446 rfl ?_
                    refine z_iload d_m_sort_446 448 rfl rfl ?_
                    first | refine z_iaddN d_m_sort_448 449 rfl ?_ | refine z_iadd d_m_sort_448 449 rfl ?_
                    refine z_iload d_m_sort_449 451 rfl rfl ?_
                    first | refine z_iaddN d_m_sort_451 452 rfl ?_ | refine z_iadd d_m_sort_451 452 rfl ?_
                    refine z_iload d_m_sort_452 454 rfl rfl ?_
                    first | refine z_iaddN d_m_sort_454 455 rfl ?_ | refine z_iadd d_m_sort_454 455 rfl ?_
                    refine z_if_neN (tgt := 462) d_m_sort_455 458 rfl rfl (by omega) (fun h455 => ?_) (fun h455 => ?_)
                    · refine z_iconst (v := nI 0) d_m_sort_462 463 rfl rfl ?_
                      exact z_iret d_m_sort_463 rfl (Nat.le_refl 0) (Nat.le_refl 0) (by first | (exfalso; omega) | (rw [show sortC cs = 0 by (simp only [sortC]; (repeat' split) <;> omega)] at q; exact q))
                    · refine z_iconst (v := nI 3) d_m_sort_458 459 rfl rfl ?_
                      refine z_goto (tgt := 463) d_m_sort_459 rfl ?_
                      exact z_iret d_m_sort_463 rfl (Nat.le_refl 0) (Nat.le_refl 0) (by first | (exfalso; omega) | (rw [show sortC cs = 3 by (simp only [sortC]; (repeat' split) <;> omega)] at q; exact q))
                · refine z_iload d_m_sort_415 417 rfl rfl ?_
                  refine z_if_neN (tgt := 436) d_m_sort_417 420 rfl rfl (by omega) (fun h417 => ?_) (fun h417 => ?_)
                  · refine z_iload d_m_sort_436 438 rfl rfl ?_
                    refine z_if_leN (tgt := 462) d_m_sort_438 441 rfl rfl (by omega) (fun h438 => ?_) (fun h438 => ?_)
                    · refine z_iconst (v := nI 0) d_m_sort_462 463 rfl rfl ?_
                      exact z_iret d_m_sort_463 rfl (Nat.le_refl 0) (Nat.le_refl 0) (by first | (exfalso; omega) | (rw [show sortC cs = 0 by (simp only [sortC]; (repeat' split) <;> omega)] at q; exact q))
                    · refine z_iload d_m_sort_441 443 rfl rfl ?_
                      refine z_iload d_m_sort_443 445 rfl rfl ?_
                      first | refine z_iaddN d_m_sort_445 446 rfl ?_ | refine z_iadd d_m_sort_445 446 rfl ?_
                      refine z_iload d_m_sort_446 448 rfl rfl ?_
                      first | refine z_iaddN d_m_sort_448 449 rfl ?_ | refine z_iadd d_m_sort_448 449 rfl ?_
                      refine z_iload d_m_sort_449 451 rfl rfl ?_
                      first | refine z_iaddN d_m_sort_451 452 rfl ?_ | refine z_iadd d_m_sort_451 452 rfl ?_
                      refine z_iload d_m_sort_452 454 rfl rfl ?_
                      first | refine z_iaddN d_m_sort_454 455 rfl ?_ | refine z_iadd d_m_sort_454 455 rfl ?_
                      refine z_if_neN (tgt := 462) d_m_sort_455 458 rfl rfl (by omega) (fun h455 => ?_) (fun h455 => ?_)
                      · refine z_iconst (v := nI 0) d_m_sort_462 463 rfl rfl ?_
                        exact z_iret d_m_sort_463 rfl (Nat.le_refl 0) (Nat.le_refl 0) (by first | (exfalso; omega) | (rw [show sortC cs = 0 by (simp only [sortC]; (repeat' split) <;> omega)] at q; exact q))
                      · refine z_iconst (v := nI 3) d_m_sort_458 459 rfl rfl ?_
                        refine z_goto (tgt := 463) d_m_sort_459 rfl ?_
                        exact z_iret d_m_sort_463 rfl (Nat.le_refl 0) (Nat.le_refl 0) (by first | (exfalso; omega) | (rw [show sortC cs = 3 by (simp only [sortC]; (repeat' split) <;> omega)] at q; exact q))
                  · refine z_iload d_m_sort_420 422 rfl rfl ?_
                    refine z_iload d_m_sort_422 424 rfl rfl ?_
                    first | refine z_iaddN d_m_sort_424 425 rfl ?_ | refine z_iadd d_m_sort_424 425 rfl ?_
                    refine z_iload d_m_sort_425 427 rfl rfl ?_
                    first | refine z_iaddN d_m_sort_427 428 rfl ?_ | refine z_iadd d_m_sort_427 428 rfl ?_
                    refine z_iload d_m_sort_428 430 rfl rfl ?_
                    first | refine z_iaddN d_m_sort_430 431 rfl ?_ | refine z_iadd d_m_sort_430 431 rfl ?_
                    refine z_if_neN (tgt := 436) d_m_sort_431 434 rfl rfl (by omega) (fun h431 => ?_) (fun h431 => ?_)
                    · refine z_iload d_m_sort_436 438 rfl rfl ?_
                      refine z_if_leN (tgt := 462) d_m_sort_438 441 rfl rfl (by omega) (fun h438 => ?_) (fun h438 => ?_)
                      · refine z_iconst (v := nI 0) d_m_sort_462 463 rfl rfl ?_
                        exact z_iret d_m_sort_463 rfl (Nat.le_refl 0) (Nat.le_refl 0) (by first | (exfalso; omega) | (rw [show sortC cs = 0 by (simp only [sortC]; (repeat' split) <;> omega)] at q; exact q))
                      · refine z_iload d_m_sort_441 443 rfl rfl ?_
                        refine z_iload d_m_sort_443 445 rfl rfl ?_
                        first | refine z_iaddN d_m_sort_445 446 rfl ?_ | refine z_iadd d_m_sort_445 446 rfl ?_
                        refine z_iload d_m_sort_446 448 rfl rfl ?_
                        first | refine z_iaddN d_m_sort_448 449 rfl ?_ | refine z_iadd d_m_sort_448 449 rfl ?_
                        refine z_iload d_m_sort_449 451 rfl rfl ?_
                        first | refine z_iaddN d_m_sort_451 452 rfl ?_ | refine z_iadd d_m_sort_451 452 rfl ?_
                        refine z_iload d_m_sort_452 454 rfl rfl ?_
                        first | refine z_iaddN d_m_sort_454 455 rfl ?_ | refine z_iadd d_m_sort_454 455 rfl ?_
                        refine z_if_neN (tgt := 462) d_m_sort_455 458 rfl rfl (by omega) (fun h455 => ?_) (fun h455 => ?_)
                        · refine z_iconst (v := nI 0) d_m_sort_462 463 rfl rfl ?_
                          exact z_iret d_m_sort_463 rfl (Nat.le_refl 0) (Nat.le_refl 0) (by first | (exfalso; omega) | (rw [show sortC cs = 0 by (simp only [sortC]; (repeat' split) <;> omega)] at q; exact q))
                        · refine z_iconst (v := nI 3) d_m_sort_458 459 rfl rfl ?_
                          refine z_goto (tgt := 463) d_m_sort_459 rfl ?_
                          exact z_iret d_m_sort_463 rfl (Nat.le_refl 0) (Nat.le_refl 0) (by first | (exfalso; omega) | (rw [show sortC cs = 3 by (simp only [sortC]; (repeat' split) <;> omega)] at q; exact q))
                    · refine z_iconst (v := nI 2) d_m_sort_434 435 rfl rfl ?_
                      exact z_iret d_m_sort_435 rfl (Nat.le_refl 0) (Nat.le_refl 0) (by first | (exfalso; omega) | (rw [show sortC cs = 2 by (simp only [sortC]; (repeat' split) <;> omega)] at q; exact q))
            · refine z_iconst (v := nI 1) d_m_sort_402 403 rfl rfl ?_
              exact z_iret d_m_sort_403 rfl (Nat.le_refl 0) (Nat.le_refl 0) (by first | (exfalso; omega) | (rw [show sortC cs = 1 by (simp only [sortC]; (repeat' split) <;> omega)] at q; exact q))
    · refine z_iconst (v := nI 0) d_m_sort_376 377 rfl rfl ?_
      exact z_iret d_m_sort_377 rfl (Nat.le_refl 0) (Nat.le_refl 0) (by first | (exfalso; omega) | (rw [show sortC cs = 0 by (simp only [sortC]; (repeat' split) <;> omega)] at q; exact q))
  have bad : ∀ f : Nat → Int32, f 9 = vf 9 → wf bs = none → Q (some (.int (nI 0))) (zmod D o hp va f) := by
    intro f hf hw
    have q := hQ f hf
    simp only [sortM, hw] at q
    exact q
  have loop : ∀ (g k : Nat) (cs : List CV) (f : Nat → Int32) (z1 z2 : Option Value), bs.length ≤ k + g → k ≤ bs.length → cs.length ≤ k → (∀ a, cs.getLast? = some a → cvOk a) → f 9 = vf 9 → wf bs = wfF bs g k cs → Z l D M_m_sort 0 0 Q (zmod D o hp va f) 0 0 31 [some (.ref o), some (.int (nI s)), some (.int (nI (lastL cs))), some (.int (lastK cs)), some (.int (nI (cnt 68 cs))), some (.int (nI (cnt 70 cs))), some (.int (nI (cnt 77 cs))), some (.int (nI (cnt 80 cs))), some (.int (nI (cnt 82 cs))), some (.int (nI (stars cs))), some (.int (nI (cnt 84 cs))), some (.int (nI (cnt 90 cs))), some (.int (nI k)), z1, z2] [] := by
    intro g
    induction g with
    | zero =>
      intro k cs f z1 z2 hg hk hcl hlast hf hw
      refine z_iload d_m_sort_31 33 rfl rfl ?_
      refine z_aload_n d_m_sort_33 34 rfl rfl rfl ?_
      refine zm_getA 1 d_m_sort_34 37 rfl f_m_13 rfl ?_
      refine z_iload_n d_m_sort_37 38 rfl rfl rfl ?_
      refine zm_iald d_m_sort_38 39 rfl (by decide) rfl (by simp only [zln]; omega) ?_
      rw [hlen]
      refine z_icmp_geN (tgt := 371) d_m_sort_39 42 rfl rfl (by omega) (by omega) (fun h39 => ?_) (fun h39 => ?_)
      · exact fin cs k f z1 z2 (by omega) hf (by rw [hw]; rfl)
      · omega
    | succ g ih =>
      intro k cs f z1 z2 hg hk hcl hlast hf hw
      refine z_iload d_m_sort_31 33 rfl rfl ?_
      refine z_aload_n d_m_sort_33 34 rfl rfl rfl ?_
      refine zm_getA 1 d_m_sort_34 37 rfl f_m_13 rfl ?_
      refine z_iload_n d_m_sort_37 38 rfl rfl rfl ?_
      refine zm_iald d_m_sort_38 39 rfl (by decide) rfl (by simp only [zln]; omega) ?_
      rw [hlen]
      refine z_icmp_geN (tgt := 371) d_m_sort_39 42 rfl rfl (by omega) (by omega) (fun h39 => ?_) (fun h39 => ?_)
      · exact fin cs k f z1 z2 (by omega) hf (by rw [hw, wfF, if_neg (by omega)])
      · rw [wfF, if_pos (by omega)] at hw
        refine z_aload_n d_m_sort_42 43 rfl rfl rfl ?_
        refine z_iload_n d_m_sort_43 44 rfl rfl rfl ?_
        refine z_iload d_m_sort_44 46 rfl rfl ?_
        refine zm_cV (fun v a f' => v = .int (zb (rdl bs k).isSome) ∧ va = a ∧ f' 9 = f 9 ∧ rdP (rdl bs k) f') d_m_sort_46 49 rfl mv_m_readLine kl_m_90 (by decide) (fun Q' h => c_m_readLine s k hr1 hlen hk hs hl (fun f h1 h2 => h _ _ _ ⟨rfl, rfl, h1, h2⟩)) rfl rfl (Nat.le_of_ble_eq_true rfl) ?_; rintro _ _ f1 ⟨rfl, rfl, i1, i2⟩
        have f19 : f1 9 = vf 9 := i1.trans hf
        have lastlt : lastL cs < 256 := by
          unfold lastL
          cases h : cs.getLast? with
          | none => simp
          | some a => have := (hlast a h).1; simp only; omega
        refine z_if_eqB (tgt := 67) d_m_sort_49 52 rfl rfl (fun h49 => ?_) (fun h49 => ?_)
        · have hn : rdl bs k = none := by simpa using h49
          rw [hn] at hw
          refine z_iconst (v := nI 0) d_m_sort_67 68 rfl rfl ?_
          exact z_iret d_m_sort_68 rfl (Nat.le_refl 0) (Nat.le_refl 0) (bad f1 f19 hw)
        · obtain ⟨⟨e, cd⟩, hrd⟩ := Option.isSome_iff_exists.mp h49
          obtain ⟨e1, e2, e3⟩ := rdl_some hk hrd
          rw [hrd] at i2
          rw [hrd] at hw
          cases cd with
          | none =>
            refine z_aload_n d_m_sort_52 53 rfl rfl rfl ?_
            refine zm_getF 11 d_m_sort_53 56 rfl f_m_47 rfl ?_; try simp only [pk_us, pk_un, ne_eq, Nat.reduceEqDiff, not_false_eq_true]
            rw [i2.2]
            refine z_iload_n d_m_sort_56 57 rfl rfl rfl ?_
            refine z_icmp_ltN (tgt := 67) d_m_sort_57 60 rfl rfl (by omega) (by omega) (fun h57 => ?_) (fun h57 => ?_)
            · refine z_iconst (v := nI 0) d_m_sort_67 68 rfl rfl ?_
              exact z_iret d_m_sort_68 rfl (Nat.le_refl 0) (Nat.le_refl 0) (bad f1 f19 hw)
            · refine z_aload_n d_m_sort_60 61 rfl rfl rfl ?_
              refine zm_getF 11 d_m_sort_61 64 rfl f_m_47 rfl ?_; try simp only [pk_us, pk_un, ne_eq, Nat.reduceEqDiff, not_false_eq_true]
              rw [i2.2]
              refine z_if_neN (tgt := 69) d_m_sort_64 67 rfl rfl (by omega) (fun h64 => ?_) (fun h64 => ?_)
              · exact absurd rfl h64
              · refine z_iconst (v := nI 0) d_m_sort_67 68 rfl rfl ?_
                exact z_iret d_m_sort_68 rfl (Nat.le_refl 0) (Nat.le_refl 0) (bad f1 f19 hw)
          | some c =>
            obtain ⟨i3, i4, i5, i6, i7, i8, i9⟩ := i2
            have hok := e3 c rfl
            obtain ⟨hlet, hx, hy, hdig, hnum, hx68, hxs, hyn⟩ := hok
            have hkey := keyC_lt (e3 c rfl)
            have hw : wf bs = if okC cs c && okZ bs k c then wfF bs g e (cs ++ [c]) else none := hw
            -- from the counts on
            have j195 : okC cs c = true → okZ bs k c = true → Z l D M_m_sort 0 0 Q (zmod D o hp va f1) 0 0 195 [some (.ref o), some (.int (nI s)), some (.int (nI (lastL cs))), some (.int (lastK cs)), some (.int (nI (cnt 68 cs))), some (.int (nI (cnt 70 cs))), some (.int (nI (cnt 77 cs))), some (.int (nI (cnt 80 cs))), some (.int (nI (cnt 82 cs))), some (.int (nI (stars cs))), some (.int (nI (cnt 84 cs))), some (.int (nI (cnt 90 cs))), some (.int (nI k)), some (.int (nI (keyC c))), some (.int (zb (grw c)))] [] := by
              intro ho hz
              rw [ho, hz, Bool.and_self, if_pos rfl] at hw
              have c68 := cnt_le 68 cs
              have c70 := cnt_le 70 cs
              have c77 := cnt_le 77 cs
              have c80 := cnt_le 80 cs
              have c82 := cnt_le 82 cs
              have c84 := cnt_le 84 cs
              have c90 := cnt_le 90 cs
              have cst := stars_le cs
              have r1 := ih e (cs ++ [c]) f1 (some (.int (nI (keyC c)))) (some (.int (zb (grw c)))) (by omega) e2 (by simp; omega) (fun a ha => by simp at ha; subst ha; exact e3 _ rfl) f19 hw
              rw [show lastL (cs ++ [c]) = c.1 by simp [lastL], show lastK (cs ++ [c]) = nI (keyC c) by simp [lastK], cnt_snoc, cnt_snoc, cnt_snoc, cnt_snoc, cnt_snoc, cnt_snoc, cnt_snoc, stars_snoc] at r1
              refine z_aload_n d_m_sort_195 196 rfl rfl rfl ?_
              refine zm_getF 11 d_m_sort_196 199 rfl f_m_47 rfl ?_; try simp only [pk_us, pk_un, ne_eq, Nat.reduceEqDiff, not_false_eq_true]
              rw [i4]
              refine z_ist2 d_m_sort_199 200 rfl rfl ?_
              refine z_iload d_m_sort_200 202 rfl rfl ?_
              refine z_ist3 d_m_sort_202 203 rfl rfl ?_
              refine z_iload d_m_sort_203 205 rfl rfl ?_
              refine z_aload_n d_m_sort_205 206 rfl rfl rfl ?_
              refine zm_getF 11 d_m_sort_206 209 rfl f_m_47 rfl ?_; try simp only [pk_us, pk_un, ne_eq, Nat.reduceEqDiff, not_false_eq_true]
              rw [i4]
              refine z_bipush (v := nI 68) d_m_sort_209 211 rfl rfl ?_
              refine z_dia_ne (tgt := 218) d_m_sort_211 d_m_sort_214 d_m_sort_215 d_m_sort_218 219 rfl rfl rfl rfl rfl (by omega) (by omega) ?_
              first | refine z_iaddN d_m_sort_219 220 rfl ?_ | refine z_iadd d_m_sort_219 220 rfl ?_
              refine z_ist4 d_m_sort_220 222 rfl rfl ?_
              refine z_iload d_m_sort_222 224 rfl rfl ?_
              refine z_aload_n d_m_sort_224 225 rfl rfl rfl ?_
              refine zm_getF 11 d_m_sort_225 228 rfl f_m_47 rfl ?_; try simp only [pk_us, pk_un, ne_eq, Nat.reduceEqDiff, not_false_eq_true]
              rw [i4]
              refine z_bipush (v := nI 70) d_m_sort_228 230 rfl rfl ?_
              refine z_dia_ne (tgt := 237) d_m_sort_230 d_m_sort_233 d_m_sort_234 d_m_sort_237 238 rfl rfl rfl rfl rfl (by omega) (by omega) ?_
              first | refine z_iaddN d_m_sort_238 239 rfl ?_ | refine z_iadd d_m_sort_238 239 rfl ?_
              refine z_ist5 d_m_sort_239 241 rfl rfl ?_
              refine z_iload d_m_sort_241 243 rfl rfl ?_
              refine z_aload_n d_m_sort_243 244 rfl rfl rfl ?_
              refine zm_getF 11 d_m_sort_244 247 rfl f_m_47 rfl ?_; try simp only [pk_us, pk_un, ne_eq, Nat.reduceEqDiff, not_false_eq_true]
              rw [i4]
              refine z_bipush (v := nI 77) d_m_sort_247 249 rfl rfl ?_
              refine z_dia_ne (tgt := 256) d_m_sort_249 d_m_sort_252 d_m_sort_253 d_m_sort_256 257 rfl rfl rfl rfl rfl (by omega) (by omega) ?_
              first | refine z_iaddN d_m_sort_257 258 rfl ?_ | refine z_iadd d_m_sort_257 258 rfl ?_
              refine z_ist6 d_m_sort_258 260 rfl rfl ?_
              refine z_iload d_m_sort_260 262 rfl rfl ?_
              refine z_aload_n d_m_sort_262 263 rfl rfl rfl ?_
              refine zm_getF 11 d_m_sort_263 266 rfl f_m_47 rfl ?_; try simp only [pk_us, pk_un, ne_eq, Nat.reduceEqDiff, not_false_eq_true]
              rw [i4]
              refine z_bipush (v := nI 80) d_m_sort_266 268 rfl rfl ?_
              refine z_dia_ne (tgt := 275) d_m_sort_268 d_m_sort_271 d_m_sort_272 d_m_sort_275 276 rfl rfl rfl rfl rfl (by omega) (by omega) ?_
              first | refine z_iaddN d_m_sort_276 277 rfl ?_ | refine z_iadd d_m_sort_276 277 rfl ?_
              refine z_ist7 d_m_sort_277 279 rfl rfl ?_
              refine z_iload d_m_sort_279 281 rfl rfl ?_
              refine z_aload_n d_m_sort_281 282 rfl rfl rfl ?_
              refine zm_getF 11 d_m_sort_282 285 rfl f_m_47 rfl ?_; try simp only [pk_us, pk_un, ne_eq, Nat.reduceEqDiff, not_false_eq_true]
              rw [i4]
              refine z_bipush (v := nI 82) d_m_sort_285 287 rfl rfl ?_
              refine z_dia_ne (tgt := 294) d_m_sort_287 d_m_sort_290 d_m_sort_291 d_m_sort_294 295 rfl rfl rfl rfl rfl (by omega) (by omega) ?_
              first | refine z_iaddN d_m_sort_295 296 rfl ?_ | refine z_iadd d_m_sort_295 296 rfl ?_
              refine z_ist8 d_m_sort_296 298 rfl rfl ?_
              refine z_iload d_m_sort_298 300 rfl rfl ?_
              refine z_aload_n d_m_sort_300 301 rfl rfl rfl ?_
              refine zm_getF 11 d_m_sort_301 304 rfl f_m_47 rfl ?_; try simp only [pk_us, pk_un, ne_eq, Nat.reduceEqDiff, not_false_eq_true]
              rw [i4]
              refine z_bipush (v := nI 84) d_m_sort_304 306 rfl rfl ?_
              refine z_dia_ne (tgt := 313) d_m_sort_306 d_m_sort_309 d_m_sort_310 d_m_sort_313 314 rfl rfl rfl rfl rfl (by omega) (by omega) ?_
              first | refine z_iaddN d_m_sort_314 315 rfl ?_ | refine z_iadd d_m_sort_314 315 rfl ?_
              refine z_ist10 d_m_sort_315 317 rfl rfl ?_
              refine z_iload d_m_sort_317 319 rfl rfl ?_
              refine z_aload_n d_m_sort_319 320 rfl rfl rfl ?_
              refine zm_getF 11 d_m_sort_320 323 rfl f_m_47 rfl ?_; try simp only [pk_us, pk_un, ne_eq, Nat.reduceEqDiff, not_false_eq_true]
              rw [i4]
              refine z_bipush (v := nI 84) d_m_sort_323 325 rfl rfl ?_
              have j340 : ∀ v, v = (if c.1 = 84 ∧ c.2.2.2.1 = none then 1 else 0) → Z l D M_m_sort 0 0 Q (zmod D o hp va f1) 0 0 340 [some (.ref o), some (.int (nI s)), some (.int (nI c.1)), some (.int (nI (keyC c))), some (.int (nI (cnt 68 cs + if c.1 = 68 then 1 else 0))), some (.int (nI (cnt 70 cs + if c.1 = 70 then 1 else 0))), some (.int (nI (cnt 77 cs + if c.1 = 77 then 1 else 0))), some (.int (nI (cnt 80 cs + if c.1 = 80 then 1 else 0))), some (.int (nI (cnt 82 cs + if c.1 = 82 then 1 else 0))), some (.int (nI (stars cs))), some (.int (nI (cnt 84 cs + if c.1 = 84 then 1 else 0))), some (.int (nI (cnt 90 cs))), some (.int (nI k)), some (.int (nI (keyC c))), some (.int (zb (grw c)))] [.int (nI v), .int (nI (stars cs))] := by
                intro v hv
                subst hv
                first | refine z_iaddN d_m_sort_340 341 rfl ?_ | refine z_iadd d_m_sort_340 341 rfl ?_
                refine z_ist9 d_m_sort_341 343 rfl rfl ?_
                refine z_iload d_m_sort_343 345 rfl rfl ?_
                refine z_aload_n d_m_sort_345 346 rfl rfl rfl ?_
                refine zm_getF 11 d_m_sort_346 349 rfl f_m_47 rfl ?_; try simp only [pk_us, pk_un, ne_eq, Nat.reduceEqDiff, not_false_eq_true]
                rw [i4]
                refine z_bipush (v := nI 90) d_m_sort_349 351 rfl rfl ?_
                refine z_dia_ne (tgt := 358) d_m_sort_351 d_m_sort_354 d_m_sort_355 d_m_sort_358 359 rfl rfl rfl rfl rfl (by omega) (by omega) ?_
                first | refine z_iaddN d_m_sort_359 360 rfl ?_ | refine z_iadd d_m_sort_359 360 rfl ?_
                refine z_ist11 d_m_sort_360 362 rfl rfl ?_
                refine z_aload_n d_m_sort_362 363 rfl rfl rfl ?_
                refine zm_getF 10 d_m_sort_363 366 rfl f_m_51 rfl ?_; try simp only [pk_us, pk_un, ne_eq, Nat.reduceEqDiff, not_false_eq_true]
                rw [i3]
                refine z_ist12 d_m_sort_366 368 rfl rfl ?_
                refine z_goto (tgt := 31) d_m_sort_368 rfl ?_
                exact r1
              refine z_icmp_neN (tgt := 339) d_m_sort_325 328 rfl rfl (by omega) (by omega) (fun h325 => ?_) (fun h325 => ?_)
              · refine z_iconst (v := nI 0) d_m_sort_339 340 rfl rfl ?_
                exact j340 0 (by rw [if_neg (fun q => h325 q.1)])
              · refine z_aload_n d_m_sort_328 329 rfl rfl rfl ?_
                refine zm_getF 14 d_m_sort_329 332 rfl f_m_58 rfl ?_; try simp only [pk_us, pk_un, ne_eq, Nat.reduceEqDiff, not_false_eq_true]
                rw [i5]
                refine z_if_geO (tgt := 339) d_m_sort_332 335 rfl rfl (fun v h => by have := hx v h; omega) (fun w332 h332 => ?_) (fun h332 => ?_)
                · refine z_iconst (v := nI 0) d_m_sort_339 340 rfl rfl ?_
                  exact j340 0 (by rw [if_neg (fun q => by rw [q.2] at h332; cases h332)])
                · refine z_iconst (v := nI 1) d_m_sort_335 336 rfl rfl ?_
                  refine z_goto (tgt := 340) d_m_sort_336 rfl ?_
                  exact j340 1 (by rw [if_pos ⟨h325, h332⟩])
            have j168 : okC cs c = true → Z l D M_m_sort 0 0 Q (zmod D o hp va f1) 0 0 168 [some (.ref o), some (.int (nI s)), some (.int (nI (lastL cs))), some (.int (lastK cs)), some (.int (nI (cnt 68 cs))), some (.int (nI (cnt 70 cs))), some (.int (nI (cnt 77 cs))), some (.int (nI (cnt 80 cs))), some (.int (nI (cnt 82 cs))), some (.int (nI (stars cs))), some (.int (nI (cnt 84 cs))), some (.int (nI (cnt 90 cs))), some (.int (nI k)), some (.int (nI (keyC c))), some (.int (zb (grw c)))] [] := by
              intro ho
              refine z_aload_n d_m_sort_168 169 rfl rfl rfl ?_
              refine zm_getF 11 d_m_sort_169 172 rfl f_m_47 rfl ?_; try simp only [pk_us, pk_un, ne_eq, Nat.reduceEqDiff, not_false_eq_true]
              rw [i4]
              refine z_bipush (v := nI 90) d_m_sort_172 174 rfl rfl ?_
              refine z_icmp_neN (tgt := 195) d_m_sort_174 177 rfl rfl (by omega) (by omega) (fun h174 => ?_) (fun h174 => ?_)
              · exact j195 ho (by simp [okZ, h174])
              · obtain ⟨v, hv⟩ := Option.isSome_iff_exists.mp (hxs (by omega) (by omega))
                have hv2 := hx v hv
                have hd7 := dg7 (bs.take k)
                refine z_aload_n d_m_sort_177 178 rfl rfl rfl ?_
                refine zm_getF 14 d_m_sort_178 181 rfl f_m_58 rfl ?_; try simp only [pk_us, pk_un, ne_eq, Nat.reduceEqDiff, not_false_eq_true]
                rw [i5, hv, show oI (some v) = nI v from rfl]
                refine z_aload_n d_m_sort_181 182 rfl rfl rfl ?_
                refine z_bipush (v := nI 7) d_m_sort_182 184 rfl rfl ?_
                refine z_iload_n d_m_sort_184 185 rfl rfl rfl ?_
                refine z_iload d_m_sort_185 187 rfl rfl ?_
                refine zm_cV1 d_m_sort_187 190 rfl mv_m_digest kl_m_94 (by decide) (fun Q' h => c_m_digest 7 s k hr1 (by omega) hs hl (by decide) h) rfl rfl (Nat.le_of_ble_eq_true rfl) ?_
                refine z_icmp_eqN (tgt := 195) d_m_sort_190 193 rfl rfl (by omega) (by omega) (fun h190 => ?_) (fun h190 => ?_)
                · exact j195 ho (by simp [okZ, h174, hv, h190])
                · have : okZ bs k c = false := by simp [okZ, h174, hv, h190]
                  rw [this, Bool.and_false] at hw
                  refine z_iconst (v := nI 0) d_m_sort_193 194 rfl rfl ?_
                  exact z_iret d_m_sort_194 rfl (Nat.le_refl 0) (Nat.le_refl 0) (bad f1 f19 hw)
            have j147 : ¬ c.1 < lastL cs → Z l D M_m_sort 0 0 Q (zmod D o hp va f1) 0 0 147 [some (.ref o), some (.int (nI s)), some (.int (nI (lastL cs))), some (.int (lastK cs)), some (.int (nI (cnt 68 cs))), some (.int (nI (cnt 70 cs))), some (.int (nI (cnt 77 cs))), some (.int (nI (cnt 80 cs))), some (.int (nI (cnt 82 cs))), some (.int (nI (stars cs))), some (.int (nI (cnt 84 cs))), some (.int (nI (cnt 90 cs))), some (.int (nI k)), some (.int (nI (keyC c))), some (.int (zb (grw c)))] [] := by
              intro hge
              refine z_aload_n d_m_sort_147 148 rfl rfl rfl ?_
              refine zm_getF 11 d_m_sort_148 151 rfl f_m_47 rfl ?_; try simp only [pk_us, pk_un, ne_eq, Nat.reduceEqDiff, not_false_eq_true]
              rw [i4]
              refine z_iload_n d_m_sort_151 152 rfl rfl rfl ?_
              refine z_icmp_neN (tgt := 168) d_m_sort_152 155 rfl rfl (by omega) (by omega) (fun h152 => ?_) (fun h152 => ?_)
              · refine j168 ?_
                cases hla : cs.getLast? with
                | none => simp [okC, hla]
                | some a =>
                  have : lastL cs = a.1 := by simp [lastL, hla]
                  simp [okC, hla]
                  omega
              · cases hla : cs.getLast? with
                | none =>
                  have : lastL cs = 0 := by simp [lastL, hla]
                  omega
                | some a =>
                  have hL1 : lastL cs = a.1 := by simp [lastL, hla]
                  have hK1 : lastK cs = nI (keyC a) := by simp [lastK, hla]
                  have hka := keyC_lt (hlast a hla)
                  refine z_iload d_m_sort_155 157 rfl rfl ?_
                  refine z_if_eqB (tgt := 166) d_m_sort_157 160 rfl rfl (fun h157 => ?_) (fun h157 => ?_)
                  · have : okC cs c = false := by simp [okC, hla, h157]; omega
                    rw [this, Bool.false_and] at hw
                    refine z_iconst (v := nI 0) d_m_sort_166 167 rfl rfl ?_
                    exact z_iret d_m_sort_167 rfl (Nat.le_refl 0) (Nat.le_refl 0) (bad f1 f19 hw)
                  · refine z_iload d_m_sort_160 162 rfl rfl ?_
                    refine z_iload_n d_m_sort_162 163 rfl rfl rfl ?_
                    rw [hK1]
                    refine z_icmp_gtN (tgt := 168) d_m_sort_163 166 rfl rfl (by omega) (by omega) (fun h163 => ?_) (fun h163 => ?_)
                    · rw [← hK1]
                      exact j168 (by simp [okC, hla, h157, h163]; omega)
                    · have : okC cs c = false := by simp [okC, hla]; omega
                      rw [this, Bool.false_and] at hw
                      refine z_iconst (v := nI 0) d_m_sort_166 167 rfl rfl ?_
                      exact z_iret d_m_sort_167 rfl (Nat.le_refl 0) (Nat.le_refl 0) (bad f1 f19 hw)
            have j111 : ¬ c.1 < lastL cs → Z l D M_m_sort 0 0 Q (zmod D o hp va f1) 0 0 111 [some (.ref o), some (.int (nI s)), some (.int (nI (lastL cs))), some (.int (lastK cs)), some (.int (nI (cnt 68 cs))), some (.int (nI (cnt 70 cs))), some (.int (nI (cnt 77 cs))), some (.int (nI (cnt 80 cs))), some (.int (nI (cnt 82 cs))), some (.int (nI (stars cs))), some (.int (nI (cnt 84 cs))), some (.int (nI (cnt 90 cs))), some (.int (nI k)), z1, z2] [.int (nI (keyC c))] := by
              intro hge
              have j145 : Z l D M_m_sort 0 0 Q (zmod D o hp va f1) 0 0 145 [some (.ref o), some (.int (nI s)), some (.int (nI (lastL cs))), some (.int (lastK cs)), some (.int (nI (cnt 68 cs))), some (.int (nI (cnt 70 cs))), some (.int (nI (cnt 77 cs))), some (.int (nI (cnt 80 cs))), some (.int (nI (cnt 82 cs))), some (.int (nI (stars cs))), some (.int (nI (cnt 84 cs))), some (.int (nI (cnt 90 cs))), some (.int (nI k)), some (.int (nI (keyC c))), z2] [.int (zb (grw c))] := by
                refine z_ist14 d_m_sort_145 147 rfl rfl ?_
                exact j147 hge
              refine z_ist13 d_m_sort_111 113 rfl rfl ?_
              refine z_aload_n d_m_sort_113 114 rfl rfl rfl ?_
              refine zm_getF 11 d_m_sort_114 117 rfl f_m_47 rfl ?_; try simp only [pk_us, pk_un, ne_eq, Nat.reduceEqDiff, not_false_eq_true]
              rw [i4]
              refine z_bipush (v := nI 70) d_m_sort_117 119 rfl rfl ?_
              refine z_icmp_eqN (tgt := 140) d_m_sort_119 122 rfl rfl (by omega) (by omega) (fun h119 => ?_) (fun h119 => ?_)
              · refine z_iconst (v := nI 1) d_m_sort_140 141 rfl rfl ?_
                refine z_goto (tgt := 145) d_m_sort_141 rfl ?_
                rw [show grw c = true by simp [grw, h119]] at j145
                exact j145
              · refine z_aload_n d_m_sort_122 123 rfl rfl rfl ?_
                refine zm_getF 11 d_m_sort_123 126 rfl f_m_47 rfl ?_; try simp only [pk_us, pk_un, ne_eq, Nat.reduceEqDiff, not_false_eq_true]
                rw [i4]
                refine z_bipush (v := nI 84) d_m_sort_126 128 rfl rfl ?_
                refine z_icmp_eqN (tgt := 140) d_m_sort_128 131 rfl rfl (by omega) (by omega) (fun h128 => ?_) (fun h128 => ?_)
                · refine z_iconst (v := nI 1) d_m_sort_140 141 rfl rfl ?_
                  refine z_goto (tgt := 145) d_m_sort_141 rfl ?_
                  rw [show grw c = true by simp [grw, h128]] at j145
                  exact j145
                · refine z_aload_n d_m_sort_131 132 rfl rfl rfl ?_
                  refine zm_getF 11 d_m_sort_132 135 rfl f_m_47 rfl ?_; try simp only [pk_us, pk_un, ne_eq, Nat.reduceEqDiff, not_false_eq_true]
                  rw [i4]
                  refine z_bipush (v := nI 77) d_m_sort_135 137 rfl rfl ?_
                  refine z_icmp_neN (tgt := 144) d_m_sort_137 140 rfl rfl (by omega) (by omega) (fun h137 => ?_) (fun h137 => ?_)
                  · refine z_iconst (v := nI 0) d_m_sort_144 145 rfl rfl ?_
                    rw [show grw c = false by simp [grw, h119, h128, h137]] at j145
                    exact j145
                  · refine z_iconst (v := nI 1) d_m_sort_140 141 rfl rfl ?_
                    refine z_goto (tgt := 145) d_m_sort_141 rfl ?_
                    rw [show grw c = true by simp [grw, h137]] at j145
                    exact j145
            refine z_aload_n d_m_sort_52 53 rfl rfl rfl ?_
            refine zm_getF 11 d_m_sort_53 56 rfl f_m_47 rfl ?_; try simp only [pk_us, pk_un, ne_eq, Nat.reduceEqDiff, not_false_eq_true]
            rw [i4]
            refine z_iload_n d_m_sort_56 57 rfl rfl rfl ?_
            refine z_icmp_ltN (tgt := 67) d_m_sort_57 60 rfl rfl (by omega) (by omega) (fun h57 => ?_) (fun h57 => ?_)
            · have : okC cs c = false := by
                cases hla : cs.getLast? with
                | none => simp [lastL, hla] at h57
                | some a =>
                  have : lastL cs = a.1 := by simp [lastL, hla]
                  simp [okC, hla]
                  omega
              rw [this, Bool.false_and] at hw
              refine z_iconst (v := nI 0) d_m_sort_67 68 rfl rfl ?_
              exact z_iret d_m_sort_68 rfl (Nat.le_refl 0) (Nat.le_refl 0) (bad f1 f19 hw)
            · have hge : ¬ c.1 < lastL cs := by omega
              refine z_aload_n d_m_sort_60 61 rfl rfl rfl ?_
              refine zm_getF 11 d_m_sort_61 64 rfl f_m_47 rfl ?_; try simp only [pk_us, pk_un, ne_eq, Nat.reduceEqDiff, not_false_eq_true]
              rw [i4]
              refine z_if_neN (tgt := 69) d_m_sort_64 67 rfl rfl (by omega) (fun h64 => ?_) (fun h64 => ?_)
              · refine z_aload_n d_m_sort_69 70 rfl rfl rfl ?_
                refine zm_getF 11 d_m_sort_70 73 rfl f_m_47 rfl ?_; try simp only [pk_us, pk_un, ne_eq, Nat.reduceEqDiff, not_false_eq_true]
                rw [i4]
                refine z_bipush (v := nI 70) d_m_sort_73 75 rfl rfl ?_
                refine z_icmp_eqN (tgt := 87) d_m_sort_75 78 rfl rfl (by omega) (by omega) (fun h75 => ?_) (fun h75 => ?_)
                · refine z_aload_n d_m_sort_87 88 rfl rfl rfl ?_
                  refine zm_getF 12 d_m_sort_88 91 rfl f_m_74 rfl ?_; try simp only [pk_us, pk_un, ne_eq, Nat.reduceEqDiff, not_false_eq_true]
                  rw [i7 (Or.inl h75), show c.2.1 = keyC c by simp [keyC, h75]]
                  refine z_goto (tgt := 111) d_m_sort_91 rfl ?_
                  exact j111 hge
                · refine z_aload_n d_m_sort_78 79 rfl rfl rfl ?_
                  refine zm_getF 11 d_m_sort_79 82 rfl f_m_47 rfl ?_; try simp only [pk_us, pk_un, ne_eq, Nat.reduceEqDiff, not_false_eq_true]
                  rw [i4]
                  refine z_bipush (v := nI 84) d_m_sort_82 84 rfl rfl ?_
                  refine z_icmp_neN (tgt := 94) d_m_sort_84 87 rfl rfl (by omega) (by omega) (fun h84 => ?_) (fun h84 => ?_)
                  · refine z_aload_n d_m_sort_94 95 rfl rfl rfl ?_
                    refine zm_getF 11 d_m_sort_95 98 rfl f_m_47 rfl ?_; try simp only [pk_us, pk_un, ne_eq, Nat.reduceEqDiff, not_false_eq_true]
                    rw [i4]
                    refine z_bipush (v := nI 77) d_m_sort_98 100 rfl rfl ?_
                    refine z_icmp_neN (tgt := 110) d_m_sort_100 103 rfl rfl (by omega) (by omega) (fun h100 => ?_) (fun h100 => ?_)
                    · refine z_iconst (v := nI 0) d_m_sort_110 111 rfl rfl ?_
                      rw [show (nI 0 : Int32) = nI (keyC c) by simp [keyC, h75, h84, h100]]
                      exact j111 hge
                    · refine z_aload_n d_m_sort_103 104 rfl rfl rfl ?_
                      refine zm_getF 14 d_m_sort_104 107 rfl f_m_58 rfl ?_; try simp only [pk_us, pk_un, ne_eq, Nat.reduceEqDiff, not_false_eq_true]
                      obtain ⟨v, hv⟩ := Option.isSome_iff_exists.mp (hxs (by omega) (by omega))
                      rw [i5, show oI c.2.2.2.1 = nI (keyC c) by simp [keyC, h75, h84, h100, hv, oI]]
                      refine z_goto (tgt := 111) d_m_sort_107 rfl ?_
                      exact j111 hge
                  · refine z_aload_n d_m_sort_87 88 rfl rfl rfl ?_
                    refine zm_getF 12 d_m_sort_88 91 rfl f_m_74 rfl ?_; try simp only [pk_us, pk_un, ne_eq, Nat.reduceEqDiff, not_false_eq_true]
                    rw [i7 (Or.inr h84), show c.2.1 = keyC c by simp [keyC, h84]]
                    refine z_goto (tgt := 111) d_m_sort_91 rfl ?_
                    exact j111 hge
              · omega
  refine z_iconst (v := nI 0) d_m_sort_0 1 rfl rfl ?_
  refine z_ist2 d_m_sort_1 2 rfl rfl ?_
  refine z_iconst (v := -1) d_m_sort_2 3 rfl (by decide) ?_
  refine z_ist3 d_m_sort_3 4 rfl rfl ?_
  refine z_iconst (v := nI 0) d_m_sort_4 5 rfl rfl ?_
  refine z_ist4 d_m_sort_5 7 rfl rfl ?_
  refine z_iconst (v := nI 0) d_m_sort_7 8 rfl rfl ?_
  refine z_ist5 d_m_sort_8 10 rfl rfl ?_
  refine z_iconst (v := nI 0) d_m_sort_10 11 rfl rfl ?_
  refine z_ist6 d_m_sort_11 13 rfl rfl ?_
  refine z_iconst (v := nI 0) d_m_sort_13 14 rfl rfl ?_
  refine z_ist7 d_m_sort_14 16 rfl rfl ?_
  refine z_iconst (v := nI 0) d_m_sort_16 17 rfl rfl ?_
  refine z_ist8 d_m_sort_17 19 rfl rfl ?_
  refine z_iconst (v := nI 0) d_m_sort_19 20 rfl rfl ?_
  refine z_ist9 d_m_sort_20 22 rfl rfl ?_
  refine z_iconst (v := nI 0) d_m_sort_22 23 rfl rfl ?_
  refine z_ist10 d_m_sort_23 25 rfl rfl ?_
  refine z_iconst (v := nI 0) d_m_sort_25 26 rfl rfl ?_
  refine z_ist11 d_m_sort_26 28 rfl rfl ?_
  refine z_iconst (v := nI 0) d_m_sort_28 29 rfl rfl ?_
  refine z_ist12 d_m_sort_29 31 rfl rfl ?_
  exact loop bs.length 0 [] vf none none (by omega) (Nat.zero_le _) (by simp) (fun a ha => by cases ha) rfl rfl
/-- is the text a check-in beside these artifacts -/
def ciM1 (As : List (List Nat)) (bs : List Nat) : Bool := decide (sortM bs = 1) && (match filesL As (lns bs) 7 with
  | none => false
  | some d => hasL 82 (nI d) (lns bs))
end M8
