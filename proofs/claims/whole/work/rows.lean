section
/-- a private method of a class that the tables say can be made, by its rows of tables_1 -/
def lw_okq (q : MethodName × Nat) : Prop := (q.1.cls ≠ "java/lang/invoke/MethodHandle" ∧ q.1.cls ≠ "java/lang/invoke/VarHandle") ∧ Cond.instantiable q.1.cls q.2 ∈ tables_1 ∧ Cond.privateMethod q.1 ∈ tables_1 ∧ Cond.instanceMethod q.1 ∈ tables_1
theorem lw_p0 : lw_okq (⟨"ArtifactBags", "writeCard", "(III)V"⟩, 4) := ⟨⟨by decide +kernel, by decide +kernel⟩, List.mem_of_getElem? (i := 13) (by decide +kernel), List.mem_of_getElem? (i := 131) (by decide +kernel), List.mem_of_getElem? (i := 132) (by decide +kernel)⟩
theorem lw_p1 : lw_okq (⟨"ArtifactBags$Row", "addSpaceAndName", "(I)V"⟩, 2) := ⟨⟨by decide +kernel, by decide +kernel⟩, List.mem_of_getElem? (i := 82) (by decide +kernel), List.mem_of_getElem? (i := 147) (by decide +kernel), List.mem_of_getElem? (i := 148) (by decide +kernel)⟩
theorem lw_p2 : lw_okq (⟨"ArtifactBags", "bagOf", "(I)LArtifactBags$Bag;"⟩, 4) := ⟨⟨by decide +kernel, by decide +kernel⟩, List.mem_of_getElem? (i := 13) (by decide +kernel), List.mem_of_getElem? (i := 193) (by decide +kernel), List.mem_of_getElem? (i := 194) (by decide +kernel)⟩
theorem lw_p3 : lw_okq (⟨"ArtifactBags$Bag", "insert", "(LArtifactBags$Artifact;)V"⟩, 6) := ⟨⟨by decide +kernel, by decide +kernel⟩, List.mem_of_getElem? (i := 21) (by decide +kernel), List.mem_of_getElem? (i := 359) (by decide +kernel), List.mem_of_getElem? (i := 360) (by decide +kernel)⟩
theorem lw_p4 : lw_okq (⟨"ArtifactBags$NameSet", "placeOf", "(I)I"⟩, 2) := ⟨⟨by decide +kernel, by decide +kernel⟩, List.mem_of_getElem? (i := 44) (by decide +kernel), List.mem_of_getElem? (i := 367) (by decide +kernel), List.mem_of_getElem? (i := 368) (by decide +kernel)⟩
theorem lw_p5 : lw_okq (⟨"ArtifactBags$Bag", "noteNamesOf", "(LArtifactBags$Artifact;)V"⟩, 6) := ⟨⟨by decide +kernel, by decide +kernel⟩, List.mem_of_getElem? (i := 21) (by decide +kernel), List.mem_of_getElem? (i := 372) (by decide +kernel), List.mem_of_getElem? (i := 373) (by decide +kernel)⟩
theorem lw_p6 : lw_okq (⟨"ArtifactBags$Bag", "want", "(I)V"⟩, 6) := ⟨⟨by decide +kernel, by decide +kernel⟩, List.mem_of_getElem? (i := 21) (by decide +kernel), List.mem_of_getElem? (i := 380) (by decide +kernel), List.mem_of_getElem? (i := 381) (by decide +kernel)⟩
theorem lw_p7 : lw_okq (⟨"ArtifactBags$Bag", "noteIfCheckIn", "(LArtifactBags$Artifact;)V"⟩, 6) := ⟨⟨by decide +kernel, by decide +kernel⟩, List.mem_of_getElem? (i := 21) (by decide +kernel), List.mem_of_getElem? (i := 400) (by decide +kernel), List.mem_of_getElem? (i := 401) (by decide +kernel)⟩
theorem lw_p8 : lw_okq (⟨"ArtifactBags$Bag", "isLoose", "(LArtifactBags$Artifact;)Z"⟩, 6) := ⟨⟨by decide +kernel, by decide +kernel⟩, List.mem_of_getElem? (i := 21) (by decide +kernel), List.mem_of_getElem? (i := 425) (by decide +kernel), List.mem_of_getElem? (i := 426) (by decide +kernel)⟩
theorem lw_p9 : lw_okq (⟨"ArtifactBags", "artifactOf", "(II)LArtifactBags$Artifact;"⟩, 4) := ⟨⟨by decide +kernel, by decide +kernel⟩, List.mem_of_getElem? (i := 13) (by decide +kernel), List.mem_of_getElem? (i := 458) (by decide +kernel), List.mem_of_getElem? (i := 459) (by decide +kernel)⟩
theorem lw_p10 : lw_okq (⟨"ArtifactBagsModel", "digest", "(III)I"⟩, 17) := ⟨⟨by decide +kernel, by decide +kernel⟩, List.mem_of_getElem? (i := 542) (by decide +kernel), List.mem_of_getElem? (i := 611) (by decide +kernel), List.mem_of_getElem? (i := 612) (by decide +kernel)⟩
theorem lw_p11 : lw_okq (⟨"ArtifactBagsModel", "at", "(II)I"⟩, 17) := ⟨⟨by decide +kernel, by decide +kernel⟩, List.mem_of_getElem? (i := 542) (by decide +kernel), List.mem_of_getElem? (i := 616) (by decide +kernel), List.mem_of_getElem? (i := 617) (by decide +kernel)⟩
theorem lw_p12 : lw_okq (⟨"ArtifactBagsModel", "write", "(II)V"⟩, 17) := ⟨⟨by decide +kernel, by decide +kernel⟩, List.mem_of_getElem? (i := 542) (by decide +kernel), List.mem_of_getElem? (i := 624) (by decide +kernel), List.mem_of_getElem? (i := 625) (by decide +kernel)⟩
theorem lw_p13 : lw_okq (⟨"ArtifactBagsModel", "writeName", "(II)V"⟩, 17) := ⟨⟨by decide +kernel, by decide +kernel⟩, List.mem_of_getElem? (i := 542) (by decide +kernel), List.mem_of_getElem? (i := 628) (by decide +kernel), List.mem_of_getElem? (i := 629) (by decide +kernel)⟩
theorem lw_p14 : lw_okq (⟨"ArtifactBagsModel", "filesOf", "(II)I"⟩, 17) := ⟨⟨by decide +kernel, by decide +kernel⟩, List.mem_of_getElem? (i := 542) (by decide +kernel), List.mem_of_getElem? (i := 648) (by decide +kernel), List.mem_of_getElem? (i := 649) (by decide +kernel)⟩
theorem lw_p15 : lw_okq (⟨"ArtifactBagsModel", "readLine", "(II)Z"⟩, 17) := ⟨⟨by decide +kernel, by decide +kernel⟩, List.mem_of_getElem? (i := 542) (by decide +kernel), List.mem_of_getElem? (i := 652) (by decide +kernel), List.mem_of_getElem? (i := 653) (by decide +kernel)⟩
def lw_privs_1 : List (MethodName × Nat) := [(⟨"ArtifactBags", "writeCard", "(III)V"⟩, 4), (⟨"ArtifactBags$Row", "addSpaceAndName", "(I)V"⟩, 2), (⟨"ArtifactBags", "bagOf", "(I)LArtifactBags$Bag;"⟩, 4), (⟨"ArtifactBags$Bag", "insert", "(LArtifactBags$Artifact;)V"⟩, 6), (⟨"ArtifactBags$NameSet", "placeOf", "(I)I"⟩, 2), (⟨"ArtifactBags$Bag", "noteNamesOf", "(LArtifactBags$Artifact;)V"⟩, 6), (⟨"ArtifactBags$Bag", "want", "(I)V"⟩, 6), (⟨"ArtifactBags$Bag", "noteIfCheckIn", "(LArtifactBags$Artifact;)V"⟩, 6), (⟨"ArtifactBags$Bag", "isLoose", "(LArtifactBags$Artifact;)Z"⟩, 6), (⟨"ArtifactBags", "artifactOf", "(II)LArtifactBags$Artifact;"⟩, 4), (⟨"ArtifactBagsModel", "digest", "(III)I"⟩, 17), (⟨"ArtifactBagsModel", "at", "(II)I"⟩, 17), (⟨"ArtifactBagsModel", "write", "(II)V"⟩, 17), (⟨"ArtifactBagsModel", "writeName", "(II)V"⟩, 17), (⟨"ArtifactBagsModel", "filesOf", "(II)I"⟩, 17), (⟨"ArtifactBagsModel", "readLine", "(II)Z"⟩, 17)]
theorem lw_r1 : ∀ q ∈ lw_privs_1, lw_okq q := List.forall_mem_cons.mpr ⟨lw_p0, List.forall_mem_cons.mpr ⟨lw_p1, List.forall_mem_cons.mpr ⟨lw_p2, List.forall_mem_cons.mpr ⟨lw_p3, List.forall_mem_cons.mpr ⟨lw_p4, List.forall_mem_cons.mpr ⟨lw_p5, List.forall_mem_cons.mpr ⟨lw_p6, List.forall_mem_cons.mpr ⟨lw_p7, List.forall_mem_cons.mpr ⟨lw_p8, List.forall_mem_cons.mpr ⟨lw_p9, List.forall_mem_cons.mpr ⟨lw_p10, List.forall_mem_cons.mpr ⟨lw_p11, List.forall_mem_cons.mpr ⟨lw_p12, List.forall_mem_cons.mpr ⟨lw_p13, List.forall_mem_cons.mpr ⟨lw_p14, List.forall_mem_cons.mpr ⟨lw_p15, fun _ h => absurd h List.not_mem_nil⟩⟩⟩⟩⟩⟩⟩⟩⟩⟩⟩⟩⟩⟩⟩⟩
theorem lw_p16 : lw_okq (⟨"ArtifactBagsModel", "isCard", "(III)Z"⟩, 17) := ⟨⟨by decide +kernel, by decide +kernel⟩, List.mem_of_getElem? (i := 542) (by decide +kernel), List.mem_of_getElem? (i := 656) (by decide +kernel), List.mem_of_getElem? (i := 657) (by decide +kernel)⟩
theorem lw_p17 : lw_okq (⟨"ArtifactBagsModel", "isNumber", "(III)Z"⟩, 17) := ⟨⟨by decide +kernel, by decide +kernel⟩, List.mem_of_getElem? (i := 542) (by decide +kernel), List.mem_of_getElem? (i := 660) (by decide +kernel), List.mem_of_getElem? (i := 661) (by decide +kernel)⟩
theorem lw_p18 : lw_okq (⟨"ArtifactBagsModel", "nameAt", "(II)I"⟩, 17) := ⟨⟨by decide +kernel, by decide +kernel⟩, List.mem_of_getElem? (i := 542) (by decide +kernel), List.mem_of_getElem? (i := 667) (by decide +kernel), List.mem_of_getElem? (i := 668) (by decide +kernel)⟩
theorem lw_p19 : lw_okq (⟨"ArtifactBagsModel", "isParent", "(III)Z"⟩, 17) := ⟨⟨by decide +kernel, by decide +kernel⟩, List.mem_of_getElem? (i := 542) (by decide +kernel), List.mem_of_getElem? (i := 671) (by decide +kernel), List.mem_of_getElem? (i := 672) (by decide +kernel)⟩
theorem lw_p20 : lw_okq (⟨"ArtifactBagsModel", "isTag", "(III)Z"⟩, 17) := ⟨⟨by decide +kernel, by decide +kernel⟩, List.mem_of_getElem? (i := 542) (by decide +kernel), List.mem_of_getElem? (i := 675) (by decide +kernel), List.mem_of_getElem? (i := 676) (by decide +kernel)⟩
theorem lw_p21 : lw_okq (⟨"ArtifactBagsModel", "find", "(II)I"⟩, 17) := ⟨⟨by decide +kernel, by decide +kernel⟩, List.mem_of_getElem? (i := 542) (by decide +kernel), List.mem_of_getElem? (i := 679) (by decide +kernel), List.mem_of_getElem? (i := 680) (by decide +kernel)⟩
theorem lw_p22 : lw_okq (⟨"ArtifactBagsModel", "hold", "(III)V"⟩, 17) := ⟨⟨by decide +kernel, by decide +kernel⟩, List.mem_of_getElem? (i := 542) (by decide +kernel), List.mem_of_getElem? (i := 687) (by decide +kernel), List.mem_of_getElem? (i := 688) (by decide +kernel)⟩
theorem lw_p23 : lw_okq (⟨"ArtifactBagsModel", "makeCluster", "(I)V"⟩, 17) := ⟨⟨by decide +kernel, by decide +kernel⟩, List.mem_of_getElem? (i := 542) (by decide +kernel), List.mem_of_getElem? (i := 695) (by decide +kernel), List.mem_of_getElem? (i := 696) (by decide +kernel)⟩
theorem lw_p24 : lw_okq (⟨"ArtifactBagsModel", "listLoose", "(I)V"⟩, 17) := ⟨⟨by decide +kernel, by decide +kernel⟩, List.mem_of_getElem? (i := 542) (by decide +kernel), List.mem_of_getElem? (i := 699) (by decide +kernel), List.mem_of_getElem? (i := 700) (by decide +kernel)⟩
theorem lw_p25 : lw_okq (⟨"ArtifactBagsModel", "clustered", "(II)Z"⟩, 17) := ⟨⟨by decide +kernel, by decide +kernel⟩, List.mem_of_getElem? (i := 542) (by decide +kernel), List.mem_of_getElem? (i := 703) (by decide +kernel), List.mem_of_getElem? (i := 704) (by decide +kernel)⟩
theorem lw_p26 : lw_okq (⟨"ArtifactBagsModel", "sort", "(I)I"⟩, 17) := ⟨⟨by decide +kernel, by decide +kernel⟩, List.mem_of_getElem? (i := 542) (by decide +kernel), List.mem_of_getElem? (i := 707) (by decide +kernel), List.mem_of_getElem? (i := 708) (by decide +kernel)⟩
theorem lw_p27 : lw_okq (⟨"ArtifactBagsModel", "has", "(III)Z"⟩, 17) := ⟨⟨by decide +kernel, by decide +kernel⟩, List.mem_of_getElem? (i := 542) (by decide +kernel), List.mem_of_getElem? (i := 711) (by decide +kernel), List.mem_of_getElem? (i := 712) (by decide +kernel)⟩
theorem lw_p28 : lw_okq (⟨"ArtifactBagsModel", "enlist", "(I)V"⟩, 17) := ⟨⟨by decide +kernel, by decide +kernel⟩, List.mem_of_getElem? (i := 542) (by decide +kernel), List.mem_of_getElem? (i := 715) (by decide +kernel), List.mem_of_getElem? (i := 716) (by decide +kernel)⟩
theorem lw_p29 : lw_okq (⟨"ArtifactBagsModel", "message", "(II)I"⟩, 17) := ⟨⟨by decide +kernel, by decide +kernel⟩, List.mem_of_getElem? (i := 542) (by decide +kernel), List.mem_of_getElem? (i := 719) (by decide +kernel), List.mem_of_getElem? (i := 720) (by decide +kernel)⟩
theorem lw_p30 : lw_okq (⟨"ArtifactBagsModel", "tell", "(II)V"⟩, 17) := ⟨⟨by decide +kernel, by decide +kernel⟩, List.mem_of_getElem? (i := 542) (by decide +kernel), List.mem_of_getElem? (i := 723) (by decide +kernel), List.mem_of_getElem? (i := 724) (by decide +kernel)⟩
theorem lw_p31 : lw_okq (⟨"ArtifactBagsModel", "listWanted", "(I)V"⟩, 17) := ⟨⟨by decide +kernel, by decide +kernel⟩, List.mem_of_getElem? (i := 542) (by decide +kernel), List.mem_of_getElem? (i := 727) (by decide +kernel), List.mem_of_getElem? (i := 728) (by decide +kernel)⟩
def lw_privs_2 : List (MethodName × Nat) := [(⟨"ArtifactBagsModel", "isCard", "(III)Z"⟩, 17), (⟨"ArtifactBagsModel", "isNumber", "(III)Z"⟩, 17), (⟨"ArtifactBagsModel", "nameAt", "(II)I"⟩, 17), (⟨"ArtifactBagsModel", "isParent", "(III)Z"⟩, 17), (⟨"ArtifactBagsModel", "isTag", "(III)Z"⟩, 17), (⟨"ArtifactBagsModel", "find", "(II)I"⟩, 17), (⟨"ArtifactBagsModel", "hold", "(III)V"⟩, 17), (⟨"ArtifactBagsModel", "makeCluster", "(I)V"⟩, 17), (⟨"ArtifactBagsModel", "listLoose", "(I)V"⟩, 17), (⟨"ArtifactBagsModel", "clustered", "(II)Z"⟩, 17), (⟨"ArtifactBagsModel", "sort", "(I)I"⟩, 17), (⟨"ArtifactBagsModel", "has", "(III)Z"⟩, 17), (⟨"ArtifactBagsModel", "enlist", "(I)V"⟩, 17), (⟨"ArtifactBagsModel", "message", "(II)I"⟩, 17), (⟨"ArtifactBagsModel", "tell", "(II)V"⟩, 17), (⟨"ArtifactBagsModel", "listWanted", "(I)V"⟩, 17)]
theorem lw_r2 : ∀ q ∈ lw_privs_2, lw_okq q := List.forall_mem_cons.mpr ⟨lw_p16, List.forall_mem_cons.mpr ⟨lw_p17, List.forall_mem_cons.mpr ⟨lw_p18, List.forall_mem_cons.mpr ⟨lw_p19, List.forall_mem_cons.mpr ⟨lw_p20, List.forall_mem_cons.mpr ⟨lw_p21, List.forall_mem_cons.mpr ⟨lw_p22, List.forall_mem_cons.mpr ⟨lw_p23, List.forall_mem_cons.mpr ⟨lw_p24, List.forall_mem_cons.mpr ⟨lw_p25, List.forall_mem_cons.mpr ⟨lw_p26, List.forall_mem_cons.mpr ⟨lw_p27, List.forall_mem_cons.mpr ⟨lw_p28, List.forall_mem_cons.mpr ⟨lw_p29, List.forall_mem_cons.mpr ⟨lw_p30, List.forall_mem_cons.mpr ⟨lw_p31, fun _ h => absurd h List.not_mem_nil⟩⟩⟩⟩⟩⟩⟩⟩⟩⟩⟩⟩⟩⟩⟩⟩
theorem lw_p32 : lw_okq (⟨"ArtifactBagsModel", "lack", "(II)V"⟩, 17) := ⟨⟨by decide +kernel, by decide +kernel⟩, List.mem_of_getElem? (i := 542) (by decide +kernel), List.mem_of_getElem? (i := 731) (by decide +kernel), List.mem_of_getElem? (i := 732) (by decide +kernel)⟩
theorem lw_p33 : lw_okq (⟨"ArtifactBagsModel", "isCheckIn", "(II)Z"⟩, 17) := ⟨⟨by decide +kernel, by decide +kernel⟩, List.mem_of_getElem? (i := 542) (by decide +kernel), List.mem_of_getElem? (i := 763) (by decide +kernel), List.mem_of_getElem? (i := 764) (by decide +kernel)⟩
theorem lw_p34 : lw_okq (⟨"ArtifactBagsModel", "timeOf", "(I)I"⟩, 17) := ⟨⟨by decide +kernel, by decide +kernel⟩, List.mem_of_getElem? (i := 542) (by decide +kernel), List.mem_of_getElem? (i := 771) (by decide +kernel), List.mem_of_getElem? (i := 772) (by decide +kernel)⟩
theorem lw_p35 : lw_okq (⟨"ArtifactBagsModel", "signOf", "(III)I"⟩, 17) := ⟨⟨by decide +kernel, by decide +kernel⟩, List.mem_of_getElem? (i := 542) (by decide +kernel), List.mem_of_getElem? (i := 788) (by decide +kernel), List.mem_of_getElem? (i := 789) (by decide +kernel)⟩
def lw_privs_3 : List (MethodName × Nat) := [(⟨"ArtifactBagsModel", "lack", "(II)V"⟩, 17), (⟨"ArtifactBagsModel", "isCheckIn", "(II)Z"⟩, 17), (⟨"ArtifactBagsModel", "timeOf", "(I)I"⟩, 17), (⟨"ArtifactBagsModel", "signOf", "(III)I"⟩, 17)]
theorem lw_r3 : ∀ q ∈ lw_privs_3, lw_okq q := List.forall_mem_cons.mpr ⟨lw_p32, List.forall_mem_cons.mpr ⟨lw_p33, List.forall_mem_cons.mpr ⟨lw_p34, List.forall_mem_cons.mpr ⟨lw_p35, fun _ h => absurd h List.not_mem_nil⟩⟩⟩⟩
def lw_privs : List (MethodName × Nat) := lw_privs_1 ++ (lw_privs_2 ++ (lw_privs_3))
def lw_tbl : List Cond := k2_sels lw_privs ++ tables_1
theorem lw_privs_ok : ∀ q ∈ lw_privs, lw_okq q := by
  show ∀ q ∈ lw_privs_1 ++ (lw_privs_2 ++ (lw_privs_3)), lw_okq q
  exact List.forall_mem_append.mpr ⟨lw_r1, List.forall_mem_append.mpr ⟨lw_r2, lw_r3⟩⟩

/-! The tables, as Z takes them. Own work. -/
def zF_m : u_T := fun k => match k with
  | 0 => ("ArtifactBagsModel", "cells", "[B", true)
  | 1 => ("ArtifactBagsModel", "length", "[I", true)
  | 2 => ("ArtifactBagsModel", "named", "[I", true)
  | 3 => ("ArtifactBagsModel", "many", "[I", true)
  | 4 => ("ArtifactBagsModel", "told", "[I", true)
  | 5 => ("ArtifactBagsModel", "tolds", "[I", true)
  | 6 => ("ArtifactBagsModel", "asked", "[I", true)
  | 7 => ("ArtifactBagsModel", "askeds", "[I", true)
  | 8 => ("ArtifactBagsModel", "list", "[I", true)
  | 9 => ("ArtifactBagsModel", "listed", "I", false)
  | 10 => ("ArtifactBagsModel", "lineEnd", "I", false)
  | 11 => ("ArtifactBagsModel", "letter", "I", false)
  | 12 => ("ArtifactBagsModel", "digit", "I", false)
  | 13 => ("ArtifactBagsModel", "plus", "Z", false)
  | 14 => ("ArtifactBagsModel", "x", "I", false)
  | 15 => ("ArtifactBagsModel", "y", "I", false)
  | _ => ("ArtifactBagsModel", "number", "I", false)
def zt_m : Nat → FieldType := fun k => match k with
  | 0 => .array .byte
  | 1 => .array .int
  | 2 => .array .int
  | 3 => .array .int
  | 4 => .array .int
  | 5 => .array .int
  | 6 => .array .int
  | 7 => .array .int
  | 8 => .array .int
  | 9 => .int
  | 10 => .int
  | 11 => .int
  | 12 => .int
  | 13 => .boolean
  | 14 => .int
  | 15 => .int
  | _ => .int
def zF_B : u_T := fun k => match k with
  | 0 => ("ArtifactBags", "zeroth", "LArtifactBags$Bag;", true)
  | 1 => ("ArtifactBags", "other", "LArtifactBags$Bag;", true)
  | 2 => ("ArtifactBags", "draft", "LArtifactBags$Row;", true)
  | _ => ("ArtifactBags", "scratch", "LArtifactBags$Row;", true)
def zt_B : Nat → FieldType := fun k => match k with
  | 0 => .object "ArtifactBags$Bag"
  | 1 => .object "ArtifactBags$Bag"
  | 2 => .object "ArtifactBags$Row"
  | _ => .object "ArtifactBags$Row"
def zF_A : u_T := fun k => match k with
  | 0 => ("ArtifactBags$Artifact", "bytes", "[B", true)
  | 1 => ("ArtifactBags$Artifact", "name", "I", true)
  | 2 => ("ArtifactBags$Artifact", "sort", "I", true)
  | 3 => ("ArtifactBags$Artifact", "cards", "[LArtifactBags$Card;", true)
  | 4 => ("ArtifactBags$Artifact", "time", "I", true)
  | _ => ("ArtifactBags$Artifact", "filesDigest", "I", true)
def zt_A : Nat → FieldType := fun k => match k with
  | 0 => .array .byte
  | 1 => .int
  | 2 => .int
  | 3 => .array (.object "ArtifactBags$Card")
  | 4 => .int
  | _ => .int
def zF_G : u_T := fun k => match k with
  | 0 => ("ArtifactBags$Bag", "artifacts", "[LArtifactBags$Artifact;", true)
  | 1 => ("ArtifactBags$Bag", "count", "I", false)
  | 2 => ("ArtifactBags$Bag", "history", "LArtifactBags$History;", true)
  | 3 => ("ArtifactBags$Bag", "missing", "LArtifactBags$NameSet;", true)
  | 4 => ("ArtifactBags$Bag", "clustered", "LArtifactBags$NameSet;", true)
  | _ => ("ArtifactBags$Bag", "asked", "LArtifactBags$NameSet;", true)
def zt_G : Nat → FieldType := fun k => match k with
  | 0 => .array (.object "ArtifactBags$Artifact")
  | 1 => .int
  | 2 => .object "ArtifactBags$History"
  | 3 => .object "ArtifactBags$NameSet"
  | 4 => .object "ArtifactBags$NameSet"
  | _ => .object "ArtifactBags$NameSet"
def zF_C : u_T := fun k => match k with
  | 0 => ("ArtifactBags$Card", "letter", "I", true)
  | 1 => ("ArtifactBags$Card", "digit", "I", true)
  | 2 => ("ArtifactBags$Card", "plus", "Z", true)
  | 3 => ("ArtifactBags$Card", "x", "I", true)
  | _ => ("ArtifactBags$Card", "y", "I", true)
def zt_C : Nat → FieldType := fun k => match k with
  | 0 => .int
  | 1 => .int
  | 2 => .boolean
  | 3 => .int
  | _ => .int
def zF_H : u_T := fun k => match k with
  | 0 => ("ArtifactBags$History", "checkedIn", "[LArtifactBags$Artifact;", true)
  | _ => ("ArtifactBags$History", "count", "I", false)
def zt_H : Nat → FieldType := fun k => match k with
  | 0 => .array (.object "ArtifactBags$Artifact")
  | _ => .int
def zF_N : u_T := fun k => match k with
  | 0 => ("ArtifactBags$NameSet", "names", "[I", false)
  | _ => ("ArtifactBags$NameSet", "size", "I", false)
def zt_N : Nat → FieldType := fun k => match k with
  | 0 => .array .int
  | _ => .int
def zF_R : u_T := fun k => match k with
  | 0 => ("ArtifactBags$Row", "bytes", "[B", true)
  | _ => ("ArtifactBags$Row", "length", "I", false)
def zt_R : Nat → FieldType := fun k => match k with
  | 0 => .array .byte
  | _ => .int
abbrev ciM : Nat := 0
abbrev zcl : List vw_C := [("ArtifactBagsModel", zF_m, 17), ("ArtifactBags", zF_B, 4), ("ArtifactBags$Artifact", zF_A, 6), ("ArtifactBags$Bag", zF_G, 6), ("ArtifactBags$Card", zF_C, 5), ("ArtifactBags$History", zF_H, 2), ("ArtifactBags$NameSet", zF_N, 2), ("ArtifactBags$Row", zF_R, 2)]
abbrev zty (aC : Nat → ClassId) : List (ClassId × FieldType) := [(aC 0, .byte), (aC 1, .int), (aC 2, .object "ArtifactBags$Artifact"), (aC 3, .object "ArtifactBags$Card")]
def zisN : Cond → Bool
  | .fieldLinkNest .. => true
  | .methodLinkNest .. => true
  | _ => false
def zT : List Cond := lw_tbl.filter goodWord
def zNest : List Cond := tables_1.filter zisN
def zOver : List String := ["ArtifactBags$Artifact", "ArtifactBags$Card"]
theorem zGd : GoodIn zT zT := fun w hw => ⟨hw, good_of_word (List.mem_filter.mp hw).2⟩
theorem zNs : zNest.all zisN = true := List.all_eq_true.mpr fun w hw => (List.mem_filter.mp hw).2
theorem zin (i : Nat) {w : Cond} (h : tables_1[i]? = some w) (hg : goodWord w = true) : w ∈ zT := List.mem_filter.mpr ⟨List.mem_append_right _ (List.mem_of_getElem? h), hg⟩
theorem zinS (i : Nat) {w : Cond} (h : (k2_sels lw_privs)[i]? = some w) (hg : goodWord w = true) : w ∈ zT := List.mem_filter.mpr ⟨List.mem_append_left _ (List.mem_of_getElem? h), hg⟩
theorem zinN (i : Nat) {w : Cond} (h : tables_1[i]? = some w) (hg : zisN w = true) : w ∈ zNest := List.mem_filter.mpr ⟨List.mem_of_getElem? h, hg⟩
end
section
/-! Z: one judgement for a method's body over an abstract heap (a partial function from addresses to cells), and Runs, a method's contract in these words. Own work, over the kit's W and Met. -/
abbrev zH : Type := Nat → Option va_E
abbrev zD : Type := (va_G × (Nat → Nat)) × (Nat → ClassId)
def zset (hp : zH) (a : Nat) (x : va_E) : zH := fun q => if q = a then some x else hp q
def zA (hp : zH) (nx : Nat) : Nat → Prop := fun q => hp q ≠ none ∨ nx ≤ q
theorem zset_self (hp : zH) (a : Nat) (x : va_E) : zset hp a x a = some x := if_pos rfl
theorem zset_ne {hp : zH} {a b : Nat} {x : va_E} (h : b ≠ a) : zset hp a x b = hp b := if_neg h
def zR (D : zD) (A : Nat → Prop) (H0 : Heap) (hp : zH) (H : Heap) (locs : List Loc) : Prop :=
  ∃ ws : va_W, va_P D.1.1 zcl ws H ∧ va_D A ws ∧ va_S A H0 H locs ∧ ∀ a x, hp a = some x ↔ ∃ k : Nat, ws[k]? = some (a, x)
/-- what the tables say, at a method's start -/
def zK (D : zD) (s : State) : Prop := va_K D.1.1 zcl (zty D.2) s ∧ (∀ w ∈ zNest, va_Nw w s) ∧ ∀ C ∈ zOver, va_AO C s
/-- a method: its name, bytes, number of locals, answer's type, frames, locals' words -/
abbrev zM : Type := MethodName × ByteArray × Nat × Option FieldType × Nat × Nat
def zw (M : zM) : List Cond := .code M.1 M.2.1 M.2.2.1 M.2.2.2.1 :: zT
def zrm (M : zM) (mc ms : Nat) : Room := { frames := M.2.2.2.2.1, cells := mc, slots := ms, locals := M.2.2.2.2.2 }
def zPc (D : zD) (as : List Value) (hp : zH) (nx : Nat) : Array Value → State → Prop := fun v U => v = as.toArray ∧ zK D U ∧ ∃ ws : va_W, va_P D.1.1 zcl ws U.heap ∧ va_D (fun _ => True) ws ∧ (∀ a x, hp a = some x ↔ ∃ k : Nat, ws[k]? = some (a, x)) ∧ U.heap.size = nx
def zQc (D : zD) (hp0 : zH) (nx0 : Nat) (Q : Option Value → zH → Prop) : Array Value → State → Outcome → State → Prop := fun _ st oc t =>
  (∃ (r : Option Value) (hp : zH), oc = .returned r ∧ Q r hp ∧ ∃ ws : va_W, va_P D.1.1 zcl ws t.heap ∧ va_D (zA hp0 nx0) ws ∧ ∀ a x, hp a = some x ↔ ∃ k : Nat, ws[k]? = some (a, x)) ∧ va_F (zA hp0 nx0) st t
def Runs (l : Launch) (D : zD) (M : zM) (as : List Value) (hp : zH) (mc ms : Nat) (Q : Option Value → zH → Prop) : Prop :=
  ∀ nx : Nat, Met l M.1 (zw M) (zrm M mc ms) (zPc D as hp nx) (zQc D hp nx Q) mc ms (zA hp nx)
def zpairs : Nat → List (Option Value) → List (Nat × Value)
  | _, [] => []
  | i, none :: t => zpairs (i + 1) t
  | i, some v :: t => (i, v) :: zpairs (i + 1) t
theorem zpairs_mem : ∀ (lv : List (Option Value)) (i j : Nat) (v : Value), (j, v) ∈ zpairs i lv ↔ ∃ k, j = i + k ∧ lv[k]? = some (some v) := by
  intro lv
  induction lv with
  | nil => intro i j v; simp [zpairs]
  | cons x t ih =>
    intro i j v
    cases x with
    | none =>
      rw [zpairs, ih]
      constructor
      · rintro ⟨k, h1, h2⟩; exact ⟨k + 1, by omega, by simpa using h2⟩
      · rintro ⟨k, h1, h2⟩
        cases k with
        | zero => simp at h2
        | succ k => exact ⟨k, by omega, by simpa using h2⟩
    | some w =>
      rw [zpairs, List.mem_cons, ih]
      constructor
      · rintro (h | ⟨k, h1, h2⟩)
        · cases h; exact ⟨0, rfl, rfl⟩
        · exact ⟨k + 1, by omega, by simpa using h2⟩
      · rintro ⟨k, h1, h2⟩
        cases k with
        | zero => left; simp at h2; subst h2; simp at h1; rw [h1]
        | succ k => right; exact ⟨k, by omega, by simpa using h2⟩
def zL (ls : Array Slot) (lv : List (Option Value)) : Prop := lv_has ls lv.length (zpairs 0 lv)
theorem zL_get {ls : Array Slot} {lv : List (Option Value)} (h : zL ls lv) {i : Nat} {v : Value} (hv : lv[i]? = some (some v)) : ls[i]? = some (.val v) :=
  h.2.2 (i, v) ((zpairs_mem lv 0 i v).2 ⟨i, by omega, hv⟩)
/-- a place before which no two-word value stands -/
def zn1 (lv : List (Option Value)) : Nat → Bool
  | 0 => true
  | i + 1 => match lv[i]? with
    | some (some v) => v.category == 1
    | _ => true
theorem zn1_ok {lv : List (Option Value)} {i j : Nat} {v : Value} (h : zn1 lv i = true) (hj : j + 1 = i) (hv : lv[j]? = some (some v)) : v.category = 1 := by
  subst hj
  simp only [zn1, hv] at h
  simpa using h
theorem zL_sub {ls : Array Slot} {n : Nat} {l : List (Nat × Value)} {lv : List (Option Value)} (h : lv_has ls n l) (hn : n = lv.length) (hs : ∀ j v, lv[j]? = some (some v) → (j, v) ∈ l) : zL ls lv := by
  subst hn
  refine ⟨h.1, h.2.1, fun q hq => h.2.2 q ?_⟩
  obtain ⟨j, v⟩ := q
  obtain ⟨k, h1, h2⟩ := (zpairs_mem lv 0 j v).1 hq
  have : j = k := by omega
  subst this
  exact hs j v h2
theorem zL_set1 {ls' : Array Slot} {n : Nat} {lv : List (Option Value)} {i : Nat} {x : Value} (hn : n = lv.length) (hi : i < n) (h1 : zn1 lv i = true) (h : lv_has ls' n ((i, x) :: (zpairs 0 lv).filter (fun q => !(q.1 == i) && !(q.1 + 1 == i && q.2.category == 2)))) : zL ls' (lv.set i (some x)) := by
  refine zL_sub h (by simp [hn]) fun j v hv => ?_
  by_cases hj : j = i
  · subst hj
    rw [List.getElem?_set_self (by omega)] at hv
    cases hv
    exact List.mem_cons_self
  · rw [List.getElem?_set_ne (fun e => hj e.symm)] at hv
    refine List.mem_cons_of_mem _ (List.mem_filter.mpr ⟨(zpairs_mem lv 0 j v).2 ⟨j, by omega, hv⟩, ?_⟩)
    by_cases h2 : j + 1 = i
    · have := zn1_ok h1 h2 hv
      simp [hj, this]
    · simp [hj, h2]
theorem zL_set2 {ls' : Array Slot} {n : Nat} {lv : List (Option Value)} {i : Nat} {x : Value} (hn : n = lv.length) (hi : i + 1 < n) (h1 : zn1 lv i = true) (h : lv_has ls' n ((i, x) :: (zpairs 0 lv).filter (fun q => !(q.1 == i) && (!(q.1 == i + 1) && !(q.1 + 1 == i && q.2.category == 2))))) : zL ls' ((lv.set i (some x)).set (i + 1) none) := by
  refine zL_sub h (by simp [hn]) fun j v hv => ?_
  by_cases h3 : j = i + 1
  · subst h3
    rw [List.getElem?_set_self (by simp; omega)] at hv
    cases hv
  · rw [List.getElem?_set_ne (fun e => h3 e.symm)] at hv
    by_cases hj : j = i
    · subst hj
      rw [List.getElem?_set_self (by omega)] at hv
      cases hv
      exact List.mem_cons_self
    · rw [List.getElem?_set_ne (fun e => hj e.symm)] at hv
      refine List.mem_cons_of_mem _ (List.mem_filter.mpr ⟨(zpairs_mem lv 0 j v).2 ⟨j, by omega, hv⟩, ?_⟩)
      by_cases h2 : j + 1 = i
      · have := zn1_ok h1 h2 hv
        simp [hj, h3, this]
      · simp [hj, h3, h2]
/-- what stands fixed while a method runs -/
def zC (D : zD) (M : zM) (p : Program) (s : State) (m : MethodId) (args : Array Value) (meth : Method) (c : Code) : Prop :=
  p.tables.exec = Jvm.exec ∧ c.code = M.2.1 ∧ c.maxLocals = M.2.2.1 ∧ s.vm.findClass M.1.cls = some m.cls ∧ (∀ w ∈ zw M, w.before args s = true) ∧ meth.locks = false ∧ meth.sig.returnType = M.2.2.2.1 ∧ meth.name = M.1.name ∧ zK D s
def Z (l : Launch) (D : zD) (M : zM) (mc ms : Nat) (Q : Option Value → zH → Prop) (hp : zH) (cu su pc : Nat) (lv : List (Option Value)) (st : List Value) : Prop :=
  ∀ (p : Program) (e : Env) (s : State) (m : MethodId) (args : Array Value) (below : List Frame) (meth : Method) (c : Code) (H : Heap) (locs : List Loc) (A : Nat → Prop) (ls : Array Slot) (Qc : Array Value → State → Outcome → State → Prop) (free : Addr → Prop),
    zC D M p s m args meth c → (∀ q, s.heap.size ≤ q → A q) → zR D A s.heap hp H locs → lv.length = M.2.2.1 → zL ls lv →
    (∀ (r : Option Value) (hp' : zH) (H' : Heap) (locs' : List Loc), zR D A s.heap hp' H' locs' → Q r hp' → (∀ t : State, t.heap = H' → s.WarmedH t.vm → Qc args s (.returned r) t) ∧ ∀ q ∈ locs', free q.base) →
    W p l e (zrm M mc ms) s m args below meth c H locs cu su (MQ below Qc args s mc ms free) (F0 m pc ls st)
section ZK
variable {l : Launch} {D : zD} {M : zM} {mc ms : Nat} {Q : Option Value → zH → Prop} {hp : zH} {cu su pc : Nat} {lv : List (Option Value)} {rest : List Value}
theorem z_iconst {n : Int} {v : Int32} (hd : decode M.2.1 pc = .ok (.iconst n, 1)) (pc' : Nat) (he : pc + 1 = pc') (hv : Int32.ofInt n = v) (k : Z l D M mc ms Q hp cu su pc' lv (.int v :: rest)) : Z l D M mc ms Q hp cu su pc lv (rest) := by
  subst he
  intro p e s m args below meth c H locs A ls Qc free hC hA hR hn hL hE
  exact lv_iconst hC.1 hC.2.1 hd hv (k p e s m args below meth c H locs A ls Qc free hC hA hR hn hL hE)
theorem z_bipush {n : Int} {v : Int32} (hd : decode M.2.1 pc = .ok (.bipush n, 2)) (pc' : Nat) (he : pc + 2 = pc') (hv : (Int8.ofInt n).toInt32 = v) (k : Z l D M mc ms Q hp cu su pc' lv (.int v :: rest)) : Z l D M mc ms Q hp cu su pc lv (rest) := by
  subst he
  intro p e s m args below meth c H locs A ls Qc free hC hA hR hn hL hE
  exact lv_bipush hC.1 hC.2.1 hd hv (k p e s m args below meth c H locs A ls Qc free hC hA hR hn hL hE)
theorem z_sipush {n : Int} {v : Int32} (hd : decode M.2.1 pc = .ok (.sipush n, 3)) (pc' : Nat) (he : pc + 3 = pc') (hv : (Int16.ofInt n).toInt32 = v) (k : Z l D M mc ms Q hp cu su pc' lv (.int v :: rest)) : Z l D M mc ms Q hp cu su pc lv (rest) := by
  subst he
  intro p e s m args below meth c H locs A ls Qc free hC hA hR hn hL hE
  exact lv_sipush hC.1 hC.2.1 hd hv (k p e s m args below meth c H locs A ls Qc free hC hA hR hn hL hE)
theorem z_lconst {n : Fin 2} {v : Int64} (hd : decode M.2.1 pc = .ok (.lconst n, 1)) (pc' : Nat) (he : pc + 1 = pc') (hv : Int64.ofNat (n : Nat) = v) (k : Z l D M mc ms Q hp cu su pc' lv (.long v :: rest)) : Z l D M mc ms Q hp cu su pc lv (rest) := by
  subst he
  intro p e s m args below meth c H locs A ls Qc free hC hA hR hn hL hE
  exact lv_lconst hC.1 hC.2.1 hd hv (k p e s m args below meth c H locs A ls Qc free hC hA hR hn hL hE)
theorem z_null  (hd : decode M.2.1 pc = .ok (.aconst_null, 1)) (pc' : Nat) (he : pc + 1 = pc')  (k : Z l D M mc ms Q hp cu su pc' lv (.null :: rest)) : Z l D M mc ms Q hp cu su pc lv (rest) := by
  subst he
  intro p e s m args below meth c H locs A ls Qc free hC hA hR hn hL hE
  exact lv_null hC.1 hC.2.1 hd  (k p e s m args below meth c H locs A ls Qc free hC hA hR hn hL hE)
theorem z_iadd {x y : Int32} (hd : decode M.2.1 pc = .ok (.iadd, 1)) (pc' : Nat) (he : pc + 1 = pc')  (k : Z l D M mc ms Q hp cu su pc' lv (.int (x + y) :: rest)) : Z l D M mc ms Q hp cu su pc lv (.int y :: .int x :: rest) := by
  subst he
  intro p e s m args below meth c H locs A ls Qc free hC hA hR hn hL hE
  exact lv_iadd hC.1 hC.2.1 hd  (k p e s m args below meth c H locs A ls Qc free hC hA hR hn hL hE)
theorem z_isub {x y : Int32} (hd : decode M.2.1 pc = .ok (.isub, 1)) (pc' : Nat) (he : pc + 1 = pc')  (k : Z l D M mc ms Q hp cu su pc' lv (.int (x - y) :: rest)) : Z l D M mc ms Q hp cu su pc lv (.int y :: .int x :: rest) := by
  subst he
  intro p e s m args below meth c H locs A ls Qc free hC hA hR hn hL hE
  exact lv_isub hC.1 hC.2.1 hd  (k p e s m args below meth c H locs A ls Qc free hC hA hR hn hL hE)
theorem z_imul {x y : Int32} (hd : decode M.2.1 pc = .ok (.imul, 1)) (pc' : Nat) (he : pc + 1 = pc')  (k : Z l D M mc ms Q hp cu su pc' lv (.int (x * y) :: rest)) : Z l D M mc ms Q hp cu su pc lv (.int y :: .int x :: rest) := by
  subst he
  intro p e s m args below meth c H locs A ls Qc free hC hA hR hn hL hE
  exact lv_imul hC.1 hC.2.1 hd  (k p e s m args below meth c H locs A ls Qc free hC hA hR hn hL hE)
theorem z_iand {x y : Int32} (hd : decode M.2.1 pc = .ok (.iand, 1)) (pc' : Nat) (he : pc + 1 = pc')  (k : Z l D M mc ms Q hp cu su pc' lv (.int (x &&& y) :: rest)) : Z l D M mc ms Q hp cu su pc lv (.int y :: .int x :: rest) := by
  subst he
  intro p e s m args below meth c H locs A ls Qc free hC hA hR hn hL hE
  exact lv_iand hC.1 hC.2.1 hd  (k p e s m args below meth c H locs A ls Qc free hC hA hR hn hL hE)
theorem z_ior {x y : Int32} (hd : decode M.2.1 pc = .ok (.ior, 1)) (pc' : Nat) (he : pc + 1 = pc')  (k : Z l D M mc ms Q hp cu su pc' lv (.int (x ||| y) :: rest)) : Z l D M mc ms Q hp cu su pc lv (.int y :: .int x :: rest) := by
  subst he
  intro p e s m args below meth c H locs A ls Qc free hC hA hR hn hL hE
  exact lv_ior hC.1 hC.2.1 hd  (k p e s m args below meth c H locs A ls Qc free hC hA hR hn hL hE)
theorem z_ixor {x y : Int32} (hd : decode M.2.1 pc = .ok (.ixor, 1)) (pc' : Nat) (he : pc + 1 = pc')  (k : Z l D M mc ms Q hp cu su pc' lv (.int (x ^^^ y) :: rest)) : Z l D M mc ms Q hp cu su pc lv (.int y :: .int x :: rest) := by
  subst he
  intro p e s m args below meth c H locs A ls Qc free hC hA hR hn hL hE
  exact lv_ixor hC.1 hC.2.1 hd  (k p e s m args below meth c H locs A ls Qc free hC hA hR hn hL hE)
theorem z_ladd {x y : Int64} (hd : decode M.2.1 pc = .ok (.ladd, 1)) (pc' : Nat) (he : pc + 1 = pc')  (k : Z l D M mc ms Q hp cu su pc' lv (.long (x + y) :: rest)) : Z l D M mc ms Q hp cu su pc lv (.long y :: .long x :: rest) := by
  subst he
  intro p e s m args below meth c H locs A ls Qc free hC hA hR hn hL hE
  exact lv_ladd hC.1 hC.2.1 hd  (k p e s m args below meth c H locs A ls Qc free hC hA hR hn hL hE)
theorem z_lsub {x y : Int64} (hd : decode M.2.1 pc = .ok (.lsub, 1)) (pc' : Nat) (he : pc + 1 = pc')  (k : Z l D M mc ms Q hp cu su pc' lv (.long (x - y) :: rest)) : Z l D M mc ms Q hp cu su pc lv (.long y :: .long x :: rest) := by
  subst he
  intro p e s m args below meth c H locs A ls Qc free hC hA hR hn hL hE
  exact lv_lsub hC.1 hC.2.1 hd  (k p e s m args below meth c H locs A ls Qc free hC hA hR hn hL hE)
theorem z_lmul {x y : Int64} (hd : decode M.2.1 pc = .ok (.lmul, 1)) (pc' : Nat) (he : pc + 1 = pc')  (k : Z l D M mc ms Q hp cu su pc' lv (.long (x * y) :: rest)) : Z l D M mc ms Q hp cu su pc lv (.long y :: .long x :: rest) := by
  subst he
  intro p e s m args below meth c H locs A ls Qc free hC hA hR hn hL hE
  exact lv_lmul hC.1 hC.2.1 hd  (k p e s m args below meth c H locs A ls Qc free hC hA hR hn hL hE)
theorem z_land {x y : Int64} (hd : decode M.2.1 pc = .ok (.land, 1)) (pc' : Nat) (he : pc + 1 = pc')  (k : Z l D M mc ms Q hp cu su pc' lv (.long (x &&& y) :: rest)) : Z l D M mc ms Q hp cu su pc lv (.long y :: .long x :: rest) := by
  subst he
  intro p e s m args below meth c H locs A ls Qc free hC hA hR hn hL hE
  exact lv_land hC.1 hC.2.1 hd  (k p e s m args below meth c H locs A ls Qc free hC hA hR hn hL hE)
theorem z_lor {x y : Int64} (hd : decode M.2.1 pc = .ok (.lor, 1)) (pc' : Nat) (he : pc + 1 = pc')  (k : Z l D M mc ms Q hp cu su pc' lv (.long (x ||| y) :: rest)) : Z l D M mc ms Q hp cu su pc lv (.long y :: .long x :: rest) := by
  subst he
  intro p e s m args below meth c H locs A ls Qc free hC hA hR hn hL hE
  exact lv_lor hC.1 hC.2.1 hd  (k p e s m args below meth c H locs A ls Qc free hC hA hR hn hL hE)
theorem z_idiv {x y : Int32} (hd : decode M.2.1 pc = .ok (.idiv, 1)) (pc' : Nat) (he : pc + 1 = pc') (hne : ¬ y = 0) (k : Z l D M mc ms Q hp cu su pc' lv (.int (x / y) :: rest)) : Z l D M mc ms Q hp cu su pc lv (.int y :: .int x :: rest) := by
  subst he
  intro p e s m args below meth c H locs A ls Qc free hC hA hR hn hL hE
  exact lv_idiv hC.1 hC.2.1 hd hne (k p e s m args below meth c H locs A ls Qc free hC hA hR hn hL hE)
theorem z_irem {x y : Int32} (hd : decode M.2.1 pc = .ok (.irem, 1)) (pc' : Nat) (he : pc + 1 = pc') (hne : ¬ y = 0) (k : Z l D M mc ms Q hp cu su pc' lv (.int (x - x / y * y) :: rest)) : Z l D M mc ms Q hp cu su pc lv (.int y :: .int x :: rest) := by
  subst he
  intro p e s m args below meth c H locs A ls Qc free hC hA hR hn hL hE
  exact lv_irem hC.1 hC.2.1 hd hne (k p e s m args below meth c H locs A ls Qc free hC hA hR hn hL hE)
theorem z_lrem {x y : Int64} (hd : decode M.2.1 pc = .ok (.lrem, 1)) (pc' : Nat) (he : pc + 1 = pc') (hne : ¬ y = 0) (k : Z l D M mc ms Q hp cu su pc' lv (.long (x - x / y * y) :: rest)) : Z l D M mc ms Q hp cu su pc lv (.long y :: .long x :: rest) := by
  subst he
  intro p e s m args below meth c H locs A ls Qc free hC hA hR hn hL hE
  exact lv_lrem hC.1 hC.2.1 hd hne (k p e s m args below meth c H locs A ls Qc free hC hA hR hn hL hE)
theorem z_ineg {x : Int32} (hd : decode M.2.1 pc = .ok (.ineg, 1)) (pc' : Nat) (he : pc + 1 = pc')  (k : Z l D M mc ms Q hp cu su pc' lv (.int (-x) :: rest)) : Z l D M mc ms Q hp cu su pc lv (.int x :: rest) := by
  subst he
  intro p e s m args below meth c H locs A ls Qc free hC hA hR hn hL hE
  exact lv_ineg hC.1 hC.2.1 hd  (k p e s m args below meth c H locs A ls Qc free hC hA hR hn hL hE)
theorem z_ishl {x y : Int32} (hd : decode M.2.1 pc = .ok (.ishl, 1)) (pc' : Nat) (he : pc + 1 = pc')  (k : Z l D M mc ms Q hp cu su pc' lv (.int (x <<< (y &&& 31)) :: rest)) : Z l D M mc ms Q hp cu su pc lv (.int y :: .int x :: rest) := by
  subst he
  intro p e s m args below meth c H locs A ls Qc free hC hA hR hn hL hE
  exact lv_ishl hC.1 hC.2.1 hd  (k p e s m args below meth c H locs A ls Qc free hC hA hR hn hL hE)
theorem z_ishr {x y : Int32} (hd : decode M.2.1 pc = .ok (.ishr, 1)) (pc' : Nat) (he : pc + 1 = pc')  (k : Z l D M mc ms Q hp cu su pc' lv (.int (x >>> (y &&& 31)) :: rest)) : Z l D M mc ms Q hp cu su pc lv (.int y :: .int x :: rest) := by
  subst he
  intro p e s m args below meth c H locs A ls Qc free hC hA hR hn hL hE
  exact lv_ishr hC.1 hC.2.1 hd  (k p e s m args below meth c H locs A ls Qc free hC hA hR hn hL hE)
theorem z_iushr {x y v : Int32} (hd : decode M.2.1 pc = .ok (.iushr, 1)) (pc' : Nat) (he : pc + 1 = pc') (hv : (x.toUInt32 >>> (y.toUInt32 &&& Int32.toUInt32 31)).toInt32 = v) (k : Z l D M mc ms Q hp cu su pc' lv (.int v :: rest)) : Z l D M mc ms Q hp cu su pc lv (.int y :: .int x :: rest) := by
  subst he
  intro p e s m args below meth c H locs A ls Qc free hC hA hR hn hL hE
  exact lv_iushr hC.1 hC.2.1 hd hv (k p e s m args below meth c H locs A ls Qc free hC hA hR hn hL hE)
theorem z_lushr {x v : Int64} {y : Int32} (hd : decode M.2.1 pc = .ok (.lushr, 1)) (pc' : Nat) (he : pc + 1 = pc') (hv : (x.toUInt64 >>> (y.toInt64.toUInt64 &&& Int64.toUInt64 63)).toInt64 = v) (k : Z l D M mc ms Q hp cu su pc' lv (.long v :: rest)) : Z l D M mc ms Q hp cu su pc lv (.int y :: .long x :: rest) := by
  subst he
  intro p e s m args below meth c H locs A ls Qc free hC hA hR hn hL hE
  exact lv_lushr hC.1 hC.2.1 hd hv (k p e s m args below meth c H locs A ls Qc free hC hA hR hn hL hE)
theorem z_lshl {x v : Int64} {y : Int32} (hd : decode M.2.1 pc = .ok (.lshl, 1)) (pc' : Nat) (he : pc + 1 = pc') (hv : x <<< (y.toInt64 &&& 63) = v) (k : Z l D M mc ms Q hp cu su pc' lv (.long v :: rest)) : Z l D M mc ms Q hp cu su pc lv (.int y :: .long x :: rest) := by
  subst he
  intro p e s m args below meth c H locs A ls Qc free hC hA hR hn hL hE
  exact lv_lshl hC.1 hC.2.1 hd hv (k p e s m args below meth c H locs A ls Qc free hC hA hR hn hL hE)
theorem z_lshr {x v : Int64} {y : Int32} (hd : decode M.2.1 pc = .ok (.lshr, 1)) (pc' : Nat) (he : pc + 1 = pc') (hv : x >>> (y.toInt64 &&& 63) = v) (k : Z l D M mc ms Q hp cu su pc' lv (.long v :: rest)) : Z l D M mc ms Q hp cu su pc lv (.int y :: .long x :: rest) := by
  subst he
  intro p e s m args below meth c H locs A ls Qc free hC hA hR hn hL hE
  exact lv_lshr hC.1 hC.2.1 hd hv (k p e s m args below meth c H locs A ls Qc free hC hA hR hn hL hE)
theorem z_i2l {x : Int32} {v : Int64} (hd : decode M.2.1 pc = .ok (.i2l, 1)) (pc' : Nat) (he : pc + 1 = pc') (hv : x.toInt64 = v) (k : Z l D M mc ms Q hp cu su pc' lv (.long v :: rest)) : Z l D M mc ms Q hp cu su pc lv (.int x :: rest) := by
  subst he
  intro p e s m args below meth c H locs A ls Qc free hC hA hR hn hL hE
  exact lv_i2l hC.1 hC.2.1 hd hv (k p e s m args below meth c H locs A ls Qc free hC hA hR hn hL hE)
theorem z_l2i {x : Int64} {v : Int32} (hd : decode M.2.1 pc = .ok (.l2i, 1)) (pc' : Nat) (he : pc + 1 = pc') (hv : x.toInt32 = v) (k : Z l D M mc ms Q hp cu su pc' lv (.int v :: rest)) : Z l D M mc ms Q hp cu su pc lv (.long x :: rest) := by
  subst he
  intro p e s m args below meth c H locs A ls Qc free hC hA hR hn hL hE
  exact lv_l2i hC.1 hC.2.1 hd hv (k p e s m args below meth c H locs A ls Qc free hC hA hR hn hL hE)
theorem z_i2b {x v : Int32} (hd : decode M.2.1 pc = .ok (.i2b, 1)) (pc' : Nat) (he : pc + 1 = pc') (hv : x.toInt8.toInt32 = v) (k : Z l D M mc ms Q hp cu su pc' lv (.int v :: rest)) : Z l D M mc ms Q hp cu su pc lv (.int x :: rest) := by
  subst he
  intro p e s m args below meth c H locs A ls Qc free hC hA hR hn hL hE
  exact lv_i2b hC.1 hC.2.1 hd hv (k p e s m args below meth c H locs A ls Qc free hC hA hR hn hL hE)
theorem z_lcmp {x y : Int64} (hd : decode M.2.1 pc = .ok (.lcmp, 1)) (pc' : Nat) (he : pc + 1 = pc')  (k : Z l D M mc ms Q hp cu su pc' lv (.int (lg_cmp x y) :: rest)) : Z l D M mc ms Q hp cu su pc lv (.long y :: .long x :: rest) := by
  subst he
  intro p e s m args below meth c H locs A ls Qc free hC hA hR hn hL hE
  exact W.lcmp hC.1 hC.2.1 hd  (k p e s m args below meth c H locs A ls Qc free hC hA hR hn hL hE)
theorem z_dup {va : Value} (hd : decode M.2.1 pc = .ok (.dup, 1)) (pc' : Nat) (he : pc + 1 = pc') (hva : va.category = 1) (k : Z l D M mc ms Q hp cu su pc' lv (va :: va :: rest)) : Z l D M mc ms Q hp cu su pc lv (va :: rest) := by
  subst he
  intro p e s m args below meth c H locs A ls Qc free hC hA hR hn hL hE
  exact lv_dup hC.1 hC.2.1 hd hva (k p e s m args below meth c H locs A ls Qc free hC hA hR hn hL hE)
theorem z_pop {va : Value} (hd : decode M.2.1 pc = .ok (.pop, 1)) (pc' : Nat) (he : pc + 1 = pc') (hva : va.category = 1) (k : Z l D M mc ms Q hp cu su pc' lv (rest)) : Z l D M mc ms Q hp cu su pc lv (va :: rest) := by
  subst he
  intro p e s m args below meth c H locs A ls Qc free hC hA hR hn hL hE
  exact lv_pop hC.1 hC.2.1 hd hva (k p e s m args below meth c H locs A ls Qc free hC hA hR hn hL hE)
theorem z_dup_x1 {va vb : Value} (hd : decode M.2.1 pc = .ok (.dup_x1, 1)) (pc' : Nat) (he : pc + 1 = pc') (hva : va.category = 1) (hvb : vb.category = 1) (k : Z l D M mc ms Q hp cu su pc' lv (va :: vb :: va :: rest)) : Z l D M mc ms Q hp cu su pc lv (va :: vb :: rest) := by
  subst he
  intro p e s m args below meth c H locs A ls Qc free hC hA hR hn hL hE
  exact lv_dup_x1 hC.1 hC.2.1 hd hva hvb (k p e s m args below meth c H locs A ls Qc free hC hA hR hn hL hE)
theorem z_dup_x2 {va vb vc : Value} (hd : decode M.2.1 pc = .ok (.dup_x2, 1)) (pc' : Nat) (he : pc + 1 = pc') (hva : va.category = 1) (hvb : vb.category = 1) (hvc : vc.category = 1) (k : Z l D M mc ms Q hp cu su pc' lv (va :: vb :: vc :: va :: rest)) : Z l D M mc ms Q hp cu su pc lv (va :: vb :: vc :: rest) := by
  subst he
  intro p e s m args below meth c H locs A ls Qc free hC hA hR hn hL hE
  exact lv_dup_x2 hC.1 hC.2.1 hd hva hvb hvc (k p e s m args below meth c H locs A ls Qc free hC hA hR hn hL hE)
theorem z_dup2 {va vb : Value} (hd : decode M.2.1 pc = .ok (.dup2, 1)) (pc' : Nat) (he : pc + 1 = pc') (hva : va.category = 1) (hvb : vb.category = 1) (k : Z l D M mc ms Q hp cu su pc' lv (va :: vb :: va :: vb :: rest)) : Z l D M mc ms Q hp cu su pc lv (va :: vb :: rest) := by
  subst he
  intro p e s m args below meth c H locs A ls Qc free hC hA hR hn hL hE
  exact lv_dup2_11 hC.1 hC.2.1 hd hva hvb (k p e s m args below meth c H locs A ls Qc free hC hA hR hn hL hE)
theorem z_if_eq {x : Int32} {off : Int} {tgt : Nat} (hd : decode M.2.1 pc = .ok (.ifCond .eq off, 3)) (pc' : Nat) (he : pc + 3 = pc') (ht : (pc : Int) + off = (tgt : Int)) (kt : x = 0 → Z l D M mc ms Q hp cu su tgt lv rest) (kf : ¬ x = 0 → Z l D M mc ms Q hp cu su pc' lv rest) : Z l D M mc ms Q hp cu su pc lv (.int x :: rest) := by
  subst he
  intro p e s m args below meth c H locs A ls Qc free hC hA hR hn hL hE
  exact lv_if_eq hC.1 hC.2.1 hd ht (fun h => kt h p e s m args below meth c H locs A ls Qc free hC hA hR hn hL hE) (fun h => kf h p e s m args below meth c H locs A ls Qc free hC hA hR hn hL hE)
theorem z_icmp_eq {x y : Int32} {off : Int} {tgt : Nat} (hd : decode M.2.1 pc = .ok (.if_icmp .eq off, 3)) (pc' : Nat) (he : pc + 3 = pc') (ht : (pc : Int) + off = (tgt : Int)) (kt : x = y → Z l D M mc ms Q hp cu su tgt lv rest) (kf : ¬ x = y → Z l D M mc ms Q hp cu su pc' lv rest) : Z l D M mc ms Q hp cu su pc lv (.int y :: .int x :: rest) := by
  subst he
  intro p e s m args below meth c H locs A ls Qc free hC hA hR hn hL hE
  exact lv_icmp_eq hC.1 hC.2.1 hd ht (fun h => kt h p e s m args below meth c H locs A ls Qc free hC hA hR hn hL hE) (fun h => kf h p e s m args below meth c H locs A ls Qc free hC hA hR hn hL hE)
theorem z_if_ne {x : Int32} {off : Int} {tgt : Nat} (hd : decode M.2.1 pc = .ok (.ifCond .ne off, 3)) (pc' : Nat) (he : pc + 3 = pc') (ht : (pc : Int) + off = (tgt : Int)) (kt : ¬ x = 0 → Z l D M mc ms Q hp cu su tgt lv rest) (kf : x = 0 → Z l D M mc ms Q hp cu su pc' lv rest) : Z l D M mc ms Q hp cu su pc lv (.int x :: rest) := by
  subst he
  intro p e s m args below meth c H locs A ls Qc free hC hA hR hn hL hE
  exact lv_if_ne hC.1 hC.2.1 hd ht (fun h => kt h p e s m args below meth c H locs A ls Qc free hC hA hR hn hL hE) (fun h => kf h p e s m args below meth c H locs A ls Qc free hC hA hR hn hL hE)
theorem z_icmp_ne {x y : Int32} {off : Int} {tgt : Nat} (hd : decode M.2.1 pc = .ok (.if_icmp .ne off, 3)) (pc' : Nat) (he : pc + 3 = pc') (ht : (pc : Int) + off = (tgt : Int)) (kt : ¬ x = y → Z l D M mc ms Q hp cu su tgt lv rest) (kf : x = y → Z l D M mc ms Q hp cu su pc' lv rest) : Z l D M mc ms Q hp cu su pc lv (.int y :: .int x :: rest) := by
  subst he
  intro p e s m args below meth c H locs A ls Qc free hC hA hR hn hL hE
  exact lv_icmp_ne hC.1 hC.2.1 hd ht (fun h => kt h p e s m args below meth c H locs A ls Qc free hC hA hR hn hL hE) (fun h => kf h p e s m args below meth c H locs A ls Qc free hC hA hR hn hL hE)
theorem z_if_lt {x : Int32} {off : Int} {tgt : Nat} (hd : decode M.2.1 pc = .ok (.ifCond .lt off, 3)) (pc' : Nat) (he : pc + 3 = pc') (ht : (pc : Int) + off = (tgt : Int)) (kt : x < 0 → Z l D M mc ms Q hp cu su tgt lv rest) (kf : ¬ x < 0 → Z l D M mc ms Q hp cu su pc' lv rest) : Z l D M mc ms Q hp cu su pc lv (.int x :: rest) := by
  subst he
  intro p e s m args below meth c H locs A ls Qc free hC hA hR hn hL hE
  exact lv_if_lt hC.1 hC.2.1 hd ht (fun h => kt h p e s m args below meth c H locs A ls Qc free hC hA hR hn hL hE) (fun h => kf h p e s m args below meth c H locs A ls Qc free hC hA hR hn hL hE)
theorem z_icmp_lt {x y : Int32} {off : Int} {tgt : Nat} (hd : decode M.2.1 pc = .ok (.if_icmp .lt off, 3)) (pc' : Nat) (he : pc + 3 = pc') (ht : (pc : Int) + off = (tgt : Int)) (kt : x < y → Z l D M mc ms Q hp cu su tgt lv rest) (kf : ¬ x < y → Z l D M mc ms Q hp cu su pc' lv rest) : Z l D M mc ms Q hp cu su pc lv (.int y :: .int x :: rest) := by
  subst he
  intro p e s m args below meth c H locs A ls Qc free hC hA hR hn hL hE
  exact lv_icmp_lt hC.1 hC.2.1 hd ht (fun h => kt h p e s m args below meth c H locs A ls Qc free hC hA hR hn hL hE) (fun h => kf h p e s m args below meth c H locs A ls Qc free hC hA hR hn hL hE)
theorem z_if_ge {x : Int32} {off : Int} {tgt : Nat} (hd : decode M.2.1 pc = .ok (.ifCond .ge off, 3)) (pc' : Nat) (he : pc + 3 = pc') (ht : (pc : Int) + off = (tgt : Int)) (kt : 0 ≤ x → Z l D M mc ms Q hp cu su tgt lv rest) (kf : ¬ 0 ≤ x → Z l D M mc ms Q hp cu su pc' lv rest) : Z l D M mc ms Q hp cu su pc lv (.int x :: rest) := by
  subst he
  intro p e s m args below meth c H locs A ls Qc free hC hA hR hn hL hE
  exact lv_if_ge hC.1 hC.2.1 hd ht (fun h => kt h p e s m args below meth c H locs A ls Qc free hC hA hR hn hL hE) (fun h => kf h p e s m args below meth c H locs A ls Qc free hC hA hR hn hL hE)
theorem z_icmp_ge {x y : Int32} {off : Int} {tgt : Nat} (hd : decode M.2.1 pc = .ok (.if_icmp .ge off, 3)) (pc' : Nat) (he : pc + 3 = pc') (ht : (pc : Int) + off = (tgt : Int)) (kt : y ≤ x → Z l D M mc ms Q hp cu su tgt lv rest) (kf : ¬ y ≤ x → Z l D M mc ms Q hp cu su pc' lv rest) : Z l D M mc ms Q hp cu su pc lv (.int y :: .int x :: rest) := by
  subst he
  intro p e s m args below meth c H locs A ls Qc free hC hA hR hn hL hE
  exact lv_icmp_ge hC.1 hC.2.1 hd ht (fun h => kt h p e s m args below meth c H locs A ls Qc free hC hA hR hn hL hE) (fun h => kf h p e s m args below meth c H locs A ls Qc free hC hA hR hn hL hE)
theorem z_if_gt {x : Int32} {off : Int} {tgt : Nat} (hd : decode M.2.1 pc = .ok (.ifCond .gt off, 3)) (pc' : Nat) (he : pc + 3 = pc') (ht : (pc : Int) + off = (tgt : Int)) (kt : 0 < x → Z l D M mc ms Q hp cu su tgt lv rest) (kf : ¬ 0 < x → Z l D M mc ms Q hp cu su pc' lv rest) : Z l D M mc ms Q hp cu su pc lv (.int x :: rest) := by
  subst he
  intro p e s m args below meth c H locs A ls Qc free hC hA hR hn hL hE
  exact lv_if_gt hC.1 hC.2.1 hd ht (fun h => kt h p e s m args below meth c H locs A ls Qc free hC hA hR hn hL hE) (fun h => kf h p e s m args below meth c H locs A ls Qc free hC hA hR hn hL hE)
theorem z_icmp_gt {x y : Int32} {off : Int} {tgt : Nat} (hd : decode M.2.1 pc = .ok (.if_icmp .gt off, 3)) (pc' : Nat) (he : pc + 3 = pc') (ht : (pc : Int) + off = (tgt : Int)) (kt : y < x → Z l D M mc ms Q hp cu su tgt lv rest) (kf : ¬ y < x → Z l D M mc ms Q hp cu su pc' lv rest) : Z l D M mc ms Q hp cu su pc lv (.int y :: .int x :: rest) := by
  subst he
  intro p e s m args below meth c H locs A ls Qc free hC hA hR hn hL hE
  exact lv_icmp_gt hC.1 hC.2.1 hd ht (fun h => kt h p e s m args below meth c H locs A ls Qc free hC hA hR hn hL hE) (fun h => kf h p e s m args below meth c H locs A ls Qc free hC hA hR hn hL hE)
theorem z_if_le {x : Int32} {off : Int} {tgt : Nat} (hd : decode M.2.1 pc = .ok (.ifCond .le off, 3)) (pc' : Nat) (he : pc + 3 = pc') (ht : (pc : Int) + off = (tgt : Int)) (kt : x ≤ 0 → Z l D M mc ms Q hp cu su tgt lv rest) (kf : ¬ x ≤ 0 → Z l D M mc ms Q hp cu su pc' lv rest) : Z l D M mc ms Q hp cu su pc lv (.int x :: rest) := by
  subst he
  intro p e s m args below meth c H locs A ls Qc free hC hA hR hn hL hE
  exact lv_if_le hC.1 hC.2.1 hd ht (fun h => kt h p e s m args below meth c H locs A ls Qc free hC hA hR hn hL hE) (fun h => kf h p e s m args below meth c H locs A ls Qc free hC hA hR hn hL hE)
theorem z_icmp_le {x y : Int32} {off : Int} {tgt : Nat} (hd : decode M.2.1 pc = .ok (.if_icmp .le off, 3)) (pc' : Nat) (he : pc + 3 = pc') (ht : (pc : Int) + off = (tgt : Int)) (kt : x ≤ y → Z l D M mc ms Q hp cu su tgt lv rest) (kf : ¬ x ≤ y → Z l D M mc ms Q hp cu su pc' lv rest) : Z l D M mc ms Q hp cu su pc lv (.int y :: .int x :: rest) := by
  subst he
  intro p e s m args below meth c H locs A ls Qc free hC hA hR hn hL hE
  exact lv_icmp_le hC.1 hC.2.1 hd ht (fun h => kt h p e s m args below meth c H locs A ls Qc free hC hA hR hn hL hE) (fun h => kf h p e s m args below meth c H locs A ls Qc free hC hA hR hn hL hE)
theorem z_acmp_eq {rx ry : Option Nat} {off : Int} {tgt : Nat} (hd : decode M.2.1 pc = .ok (.if_acmp .eq off, 3)) (pc' : Nat) (he : pc + 3 = pc') (ht : (pc : Int) + off = (tgt : Int)) (kt : rx = ry → Z l D M mc ms Q hp cu su tgt lv rest) (kf : ¬ rx = ry → Z l D M mc ms Q hp cu su pc' lv rest) : Z l D M mc ms Q hp cu su pc lv (va_rf ry :: va_rf rx :: rest) := by
  subst he
  intro p e s m args below meth c H locs A ls Qc free hC hA hR hn hL hE
  exact lv_acmp_eq hC.1 hC.2.1 hd ht (fun h => kt h p e s m args below meth c H locs A ls Qc free hC hA hR hn hL hE) (fun h => kf h p e s m args below meth c H locs A ls Qc free hC hA hR hn hL hE)
theorem z_acmp_ne {rx ry : Option Nat} {off : Int} {tgt : Nat} (hd : decode M.2.1 pc = .ok (.if_acmp .ne off, 3)) (pc' : Nat) (he : pc + 3 = pc') (ht : (pc : Int) + off = (tgt : Int)) (kt : ¬ rx = ry → Z l D M mc ms Q hp cu su tgt lv rest) (kf : rx = ry → Z l D M mc ms Q hp cu su pc' lv rest) : Z l D M mc ms Q hp cu su pc lv (va_rf ry :: va_rf rx :: rest) := by
  subst he
  intro p e s m args below meth c H locs A ls Qc free hC hA hR hn hL hE
  exact lv_acmp_ne hC.1 hC.2.1 hd ht (fun h => kt h p e s m args below meth c H locs A ls Qc free hC hA hR hn hL hE) (fun h => kf h p e s m args below meth c H locs A ls Qc free hC hA hR hn hL hE)
theorem z_goto {off : Int} {tgt : Nat} (hd : decode M.2.1 pc = .ok (.goto off, 3)) (ht : (pc : Int) + off = (tgt : Int)) (k : Z l D M mc ms Q hp cu su tgt lv rest) : Z l D M mc ms Q hp cu su pc lv rest := by
  intro p e s m args below meth c H locs A ls Qc free hC hA hR hn hL hE
  exact lv_goto hC.1 hC.2.1 hd ht (k p e s m args below meth c H locs A ls Qc free hC hA hR hn hL hE)
theorem z_ifnull {r : Option Nat} {off : Int} {tgt : Nat} (hd : decode M.2.1 pc = .ok (.ifnull off, 3)) (pc' : Nat) (he : pc + 3 = pc') (ht : (pc : Int) + off = (tgt : Int)) (kt : r = none → Z l D M mc ms Q hp cu su tgt lv rest) (kf : ∀ a, r = some a → Z l D M mc ms Q hp cu su pc' lv rest) : Z l D M mc ms Q hp cu su pc lv (va_rf r :: rest) := by
  subst he
  intro p e s m args below meth c H locs A ls Qc free hC hA hR hn hL hE
  cases r with
  | none => exact lv_ifnullN hC.1 hC.2.1 hd ht (kt rfl p e s m args below meth c H locs A ls Qc free hC hA hR hn hL hE)
  | some a => exact lv_ifnull hC.1 hC.2.1 hd (kf a rfl p e s m args below meth c H locs A ls Qc free hC hA hR hn hL hE)
theorem z_ifnonnull {r : Option Nat} {off : Int} {tgt : Nat} (hd : decode M.2.1 pc = .ok (.ifnonnull off, 3)) (pc' : Nat) (he : pc + 3 = pc') (ht : (pc : Int) + off = (tgt : Int)) (kt : ∀ a, r = some a → Z l D M mc ms Q hp cu su tgt lv rest) (kf : r = none → Z l D M mc ms Q hp cu su pc' lv rest) : Z l D M mc ms Q hp cu su pc lv (va_rf r :: rest) := by
  subst he
  intro p e s m args below meth c H locs A ls Qc free hC hA hR hn hL hE
  cases r with
  | none => exact lv_ifnonnullN hC.1 hC.2.1 hd (kf rfl p e s m args below meth c H locs A ls Qc free hC hA hR hn hL hE)
  | some a => exact lv_ifnonnull hC.1 hC.2.1 hd ht (kt a rfl p e s m args below meth c H locs A ls Qc free hC hA hR hn hL hE)
theorem z_ldc {index : Nat} {v : Int32} (hd : decode M.2.1 pc = .ok (.ldc index, 2)) (pc' : Nat) (he : pc + 2 = pc') (hw : Jvm.Cond.constant M.1.cls index v ∈ zT) (k : Z l D M mc ms Q hp cu su pc' lv (.int v :: rest)) : Z l D M mc ms Q hp cu su pc lv rest := by
  subst he
  intro p e s m args below meth c H locs A ls Qc free hC hA hR hn hL hE
  exact lv_ldc hC.1 hC.2.1 hC.2.2.2.1 (hC.2.2.2.2.1 _ (List.mem_cons_of_mem _ hw)) hd (k p e s m args below meth c H locs A ls Qc free hC hA hR hn hL hE)
theorem z_ldcw {index : Nat} {v : Int32} (hd : decode M.2.1 pc = .ok (.ldc_w index, 3)) (pc' : Nat) (he : pc + 3 = pc') (hw : Jvm.Cond.constant M.1.cls index v ∈ zT) (k : Z l D M mc ms Q hp cu su pc' lv (.int v :: rest)) : Z l D M mc ms Q hp cu su pc lv rest := by
  subst he
  intro p e s m args below meth c H locs A ls Qc free hC hA hR hn hL hE
  exact lv_ldcw hC.1 hC.2.1 hC.2.2.2.1 (hC.2.2.2.2.1 _ (List.mem_cons_of_mem _ hw)) hd (k p e s m args below meth c H locs A ls Qc free hC hA hR hn hL hE)
theorem z_ldc2 {index : Nat} {v : Int64} (hd : decode M.2.1 pc = .ok (.ldc2_w index, 3)) (pc' : Nat) (he : pc + 3 = pc') (hw : Jvm.Cond.constantLong M.1.cls index v ∈ zT) (k : Z l D M mc ms Q hp cu su pc' lv (.long v :: rest)) : Z l D M mc ms Q hp cu su pc lv rest := by
  subst he
  intro p e s m args below meth c H locs A ls Qc free hC hA hR hn hL hE
  exact lv_ldc2 hC.1 hC.2.1 hC.2.2.2.1 (hC.2.2.2.2.1 _ (List.mem_cons_of_mem _ hw)) hd (k p e s m args below meth c H locs A ls Qc free hC hA hR hn hL hE)
theorem z_iload_n {q : Fin 4} {i : Nat} {x : Int32} (hd : decode M.2.1 pc = .ok (.iload_n q, 1)) (pc' : Nat) (he : pc + 1 = pc') (hi : (q : Nat) = i) (hv : lv[i]? = some (some (.int x))) (k : Z l D M mc ms Q hp cu su pc' lv (.int x :: rest)) : Z l D M mc ms Q hp cu su pc lv rest := by
  subst he
  intro p e s m args below meth c H locs A ls Qc free hC hA hR hn hL hE
  exact lv_iload_n hC.1 hC.2.1 hd hi (zL_get hL hv) (k p e s m args below meth c H locs A ls Qc free hC hA hR hn hL hE)
theorem z_iload {i : Nat} {x : Int32} (hd : decode M.2.1 pc = .ok (.iload i, 2)) (pc' : Nat) (he : pc + 2 = pc') (hv : lv[i]? = some (some (.int x))) (k : Z l D M mc ms Q hp cu su pc' lv (.int x :: rest)) : Z l D M mc ms Q hp cu su pc lv rest := by
  subst he
  intro p e s m args below meth c H locs A ls Qc free hC hA hR hn hL hE
  exact lv_iload hC.1 hC.2.1 hd (zL_get hL hv) (k p e s m args below meth c H locs A ls Qc free hC hA hR hn hL hE)
theorem z_lload_n {q : Fin 4} {i : Nat} {x : Int64} (hd : decode M.2.1 pc = .ok (.lload_n q, 1)) (pc' : Nat) (he : pc + 1 = pc') (hi : (q : Nat) = i) (hv : lv[i]? = some (some (.long x))) (k : Z l D M mc ms Q hp cu su pc' lv (.long x :: rest)) : Z l D M mc ms Q hp cu su pc lv rest := by
  subst he
  intro p e s m args below meth c H locs A ls Qc free hC hA hR hn hL hE
  exact lv_lload_n hC.1 hC.2.1 hd hi (zL_get hL hv) (k p e s m args below meth c H locs A ls Qc free hC hA hR hn hL hE)
theorem z_lload {i : Nat} {x : Int64} (hd : decode M.2.1 pc = .ok (.lload i, 2)) (pc' : Nat) (he : pc + 2 = pc') (hv : lv[i]? = some (some (.long x))) (k : Z l D M mc ms Q hp cu su pc' lv (.long x :: rest)) : Z l D M mc ms Q hp cu su pc lv rest := by
  subst he
  intro p e s m args below meth c H locs A ls Qc free hC hA hR hn hL hE
  exact lv_lload hC.1 hC.2.1 hd (zL_get hL hv) (k p e s m args below meth c H locs A ls Qc free hC hA hR hn hL hE)
theorem z_aload_n {q : Fin 4} {i : Nat} {x : Nat} (hd : decode M.2.1 pc = .ok (.aload_n q, 1)) (pc' : Nat) (he : pc + 1 = pc') (hi : (q : Nat) = i) (hv : lv[i]? = some (some (.ref x))) (k : Z l D M mc ms Q hp cu su pc' lv (.ref x :: rest)) : Z l D M mc ms Q hp cu su pc lv rest := by
  subst he
  intro p e s m args below meth c H locs A ls Qc free hC hA hR hn hL hE
  exact lv_aload_n hC.1 hC.2.1 hd hi (zL_get hL hv) (k p e s m args below meth c H locs A ls Qc free hC hA hR hn hL hE)
theorem z_aload {i : Nat} {x : Nat} (hd : decode M.2.1 pc = .ok (.aload i, 2)) (pc' : Nat) (he : pc + 2 = pc') (hv : lv[i]? = some (some (.ref x))) (k : Z l D M mc ms Q hp cu su pc' lv (.ref x :: rest)) : Z l D M mc ms Q hp cu su pc lv rest := by
  subst he
  intro p e s m args below meth c H locs A ls Qc free hC hA hR hn hL hE
  exact lv_aload hC.1 hC.2.1 hd (zL_get hL hv) (k p e s m args below meth c H locs A ls Qc free hC hA hR hn hL hE)
theorem z_aload_nN {q : Fin 4} {i : Nat} (hd : decode M.2.1 pc = .ok (.aload_n q, 1)) (pc' : Nat) (he : pc + 1 = pc') (hi : (q : Nat) = i) (hv : lv[i]? = some (some .null)) (k : Z l D M mc ms Q hp cu su pc' lv (.null :: rest)) : Z l D M mc ms Q hp cu su pc lv rest := by
  subst he
  intro p e s m args below meth c H locs A ls Qc free hC hA hR hn hL hE
  exact lv_aload_nN hC.1 hC.2.1 hd hi (zL_get hL hv) (k p e s m args below meth c H locs A ls Qc free hC hA hR hn hL hE)
theorem z_aloadN {i : Nat} (hd : decode M.2.1 pc = .ok (.aload i, 2)) (pc' : Nat) (he : pc + 2 = pc') (hv : lv[i]? = some (some .null)) (k : Z l D M mc ms Q hp cu su pc' lv (.null :: rest)) : Z l D M mc ms Q hp cu su pc lv rest := by
  subst he
  intro p e s m args below meth c H locs A ls Qc free hC hA hR hn hL hE
  exact lv_aloadN hC.1 hC.2.1 hd (zL_get hL hv) (k p e s m args below meth c H locs A ls Qc free hC hA hR hn hL hE)
theorem z_aload_nq {q : Fin 4} {i : Nat} {r : Option Nat} (hd : decode M.2.1 pc = .ok (.aload_n q, 1)) (pc' : Nat) (he : pc + 1 = pc') (hi : (q : Nat) = i) (hv : lv[i]? = some (some (va_rf r))) (k : Z l D M mc ms Q hp cu su pc' lv (va_rf r :: rest)) : Z l D M mc ms Q hp cu su pc lv rest := by
  subst he
  cases r with
  | none => exact z_aload_nN hd _ rfl hi hv k
  | some a => exact z_aload_n hd _ rfl hi hv k
theorem z_aloadq {i : Nat} {r : Option Nat} (hd : decode M.2.1 pc = .ok (.aload i, 2)) (pc' : Nat) (he : pc + 2 = pc') (hv : lv[i]? = some (some (va_rf r))) (k : Z l D M mc ms Q hp cu su pc' lv (va_rf r :: rest)) : Z l D M mc ms Q hp cu su pc lv rest := by
  subst he
  cases r with
  | none => exact z_aloadN hd _ rfl hv k
  | some a => exact z_aload hd _ rfl hv k
theorem z_istore_n {q : Fin 4} {i : Nat} {x : Int32} (hd : decode M.2.1 pc = .ok (.istore_n q, 1)) (pc' : Nat) (he : pc + 1 = pc') (hi : (q : Nat) = i) (h1 : zn1 lv i = true) (hi9 : i < lv.length) (k : Z l D M mc ms Q hp cu su pc' (lv.set i (some (.int x))) rest) : Z l D M mc ms Q hp cu su pc lv (.int x :: rest) := by
  subst he
  intro p e s m args below meth c H locs A ls Qc free hC hA hR hn hL hE
  exact lv_istore_n hC.1 hC.2.1 hd hi hL hi9 rfl (fun ls' h' => k p e s m args below meth c H locs A ls' Qc free hC hA hR (by simpa using hn) (zL_set1 rfl hi9 h1 h') hE)
theorem z_istore {i : Nat} {x : Int32} (hd : decode M.2.1 pc = .ok (.istore i, 2)) (pc' : Nat) (he : pc + 2 = pc') (h1 : zn1 lv i = true) (hi9 : i < lv.length) (k : Z l D M mc ms Q hp cu su pc' (lv.set i (some (.int x))) rest) : Z l D M mc ms Q hp cu su pc lv (.int x :: rest) := by
  subst he
  intro p e s m args below meth c H locs A ls Qc free hC hA hR hn hL hE
  exact lv_istore hC.1 hC.2.1 hd hL hi9 rfl (fun ls' h' => k p e s m args below meth c H locs A ls' Qc free hC hA hR (by simpa using hn) (zL_set1 rfl hi9 h1 h') hE)
theorem z_astore_n {q : Fin 4} {i : Nat} {x : Nat} (hd : decode M.2.1 pc = .ok (.astore_n q, 1)) (pc' : Nat) (he : pc + 1 = pc') (hi : (q : Nat) = i) (h1 : zn1 lv i = true) (hi9 : i < lv.length) (k : Z l D M mc ms Q hp cu su pc' (lv.set i (some (.ref x))) rest) : Z l D M mc ms Q hp cu su pc lv (.ref x :: rest) := by
  subst he
  intro p e s m args below meth c H locs A ls Qc free hC hA hR hn hL hE
  exact lv_astore_n hC.1 hC.2.1 hd hi hL hi9 rfl (fun ls' h' => k p e s m args below meth c H locs A ls' Qc free hC hA hR (by simpa using hn) (zL_set1 rfl hi9 h1 h') hE)
theorem z_astore {i : Nat} {x : Nat} (hd : decode M.2.1 pc = .ok (.astore i, 2)) (pc' : Nat) (he : pc + 2 = pc') (h1 : zn1 lv i = true) (hi9 : i < lv.length) (k : Z l D M mc ms Q hp cu su pc' (lv.set i (some (.ref x))) rest) : Z l D M mc ms Q hp cu su pc lv (.ref x :: rest) := by
  subst he
  intro p e s m args below meth c H locs A ls Qc free hC hA hR hn hL hE
  exact lv_astore hC.1 hC.2.1 hd hL hi9 rfl (fun ls' h' => k p e s m args below meth c H locs A ls' Qc free hC hA hR (by simpa using hn) (zL_set1 rfl hi9 h1 h') hE)
theorem z_astore_nN {q : Fin 4} {i : Nat} (hd : decode M.2.1 pc = .ok (.astore_n q, 1)) (pc' : Nat) (he : pc + 1 = pc') (hi : (q : Nat) = i) (h1 : zn1 lv i = true) (hi9 : i < lv.length) (k : Z l D M mc ms Q hp cu su pc' (lv.set i (some .null)) rest) : Z l D M mc ms Q hp cu su pc lv (.null :: rest) := by
  subst he
  intro p e s m args below meth c H locs A ls Qc free hC hA hR hn hL hE
  exact lv_astore_nN hC.1 hC.2.1 hd hi hL hi9 rfl (fun ls' h' => k p e s m args below meth c H locs A ls' Qc free hC hA hR (by simpa using hn) (zL_set1 rfl hi9 h1 h') hE)
theorem z_astore_nq {q : Fin 4} {i : Nat} {r : Option Nat} (hd : decode M.2.1 pc = .ok (.astore_n q, 1)) (pc' : Nat) (he : pc + 1 = pc') (hi : (q : Nat) = i) (h1 : zn1 lv i = true) (hi9 : i < lv.length) (k : Z l D M mc ms Q hp cu su pc' (lv.set i (some (va_rf r))) rest) : Z l D M mc ms Q hp cu su pc lv (va_rf r :: rest) := by
  subst he
  cases r with
  | none => exact z_astore_nN hd _ rfl hi h1 hi9 k
  | some a => exact z_astore_n hd _ rfl hi h1 hi9 k
theorem z_astoreN {i : Nat} (hd : decode M.2.1 pc = .ok (.astore i, 2)) (pc' : Nat) (he : pc + 2 = pc') (h1 : zn1 lv i = true) (hi9 : i < lv.length) (k : Z l D M mc ms Q hp cu su pc' (lv.set i (some .null)) rest) : Z l D M mc ms Q hp cu su pc lv (.null :: rest) := by
  subst he
  intro p e s m args below meth c H locs A ls Qc free hC hA hR hn hL hE
  exact lv_astoreN hC.1 hC.2.1 hd hL hi9 rfl (fun ls' h' => k p e s m args below meth c H locs A ls' Qc free hC hA hR (by simpa using hn) (zL_set1 rfl hi9 h1 h') hE)
theorem z_astoreq {i : Nat} {r : Option Nat} (hd : decode M.2.1 pc = .ok (.astore i, 2)) (pc' : Nat) (he : pc + 2 = pc') (h1 : zn1 lv i = true) (hi9 : i < lv.length) (k : Z l D M mc ms Q hp cu su pc' (lv.set i (some (va_rf r))) rest) : Z l D M mc ms Q hp cu su pc lv (va_rf r :: rest) := by
  subst he
  cases r with
  | none => exact z_astoreN hd _ rfl h1 hi9 k
  | some a => exact z_astore hd _ rfl h1 hi9 k
theorem z_lstore_n {q : Fin 4} {i : Nat} {x : Int64} (hd : decode M.2.1 pc = .ok (.lstore_n q, 1)) (pc' : Nat) (he : pc + 1 = pc') (hi : (q : Nat) = i) (h1 : zn1 lv i = true) (hi9 : i + 1 < lv.length) (k : Z l D M mc ms Q hp cu su pc' ((lv.set i (some (.long x))).set (i + 1) none) rest) : Z l D M mc ms Q hp cu su pc lv (.long x :: rest) := by
  subst he
  intro p e s m args below meth c H locs A ls Qc free hC hA hR hn hL hE
  exact lv_lstore_n hC.1 hC.2.1 hd hi hL hi9 rfl (fun ls' h' => k p e s m args below meth c H locs A ls' Qc free hC hA hR (by simpa using hn) (zL_set2 rfl hi9 h1 h') hE)
theorem z_lstore {i : Nat} {x : Int64} (hd : decode M.2.1 pc = .ok (.lstore i, 2)) (pc' : Nat) (he : pc + 2 = pc') (h1 : zn1 lv i = true) (hi9 : i + 1 < lv.length) (k : Z l D M mc ms Q hp cu su pc' ((lv.set i (some (.long x))).set (i + 1) none) rest) : Z l D M mc ms Q hp cu su pc lv (.long x :: rest) := by
  subst he
  intro p e s m args below meth c H locs A ls Qc free hC hA hR hn hL hE
  exact lv_lstore hC.1 hC.2.1 hd hL hi9 rfl (fun ls' h' => k p e s m args below meth c H locs A ls' Qc free hC hA hR (by simpa using hn) (zL_set2 rfl hi9 h1 h') hE)
theorem z_iinc {i : Nat} {n : Int} {x v : Int32} (hd : decode M.2.1 pc = .ok (.iinc i n, 3)) (pc' : Nat) (he : pc + 3 = pc') (hx : lv[i]? = some (some (.int x))) (hv : x + Int32.ofInt n = v) (h1 : zn1 lv i = true) (k : Z l D M mc ms Q hp cu su pc' (lv.set i (some (.int v))) rest) : Z l D M mc ms Q hp cu su pc lv rest := by
  subst he
  intro p e s m args below meth c H locs A ls Qc free hC hA hR hn hL hE
  have hi9 : i < lv.length := (List.getElem?_eq_some_iff.mp hx).1
  obtain ⟨k9, hk9⟩ := List.getElem?_of_mem ((zpairs_mem lv 0 i (.int x)).2 ⟨i, by omega, hx⟩)
  exact lv_iinc hC.1 hC.2.1 hd hL hk9 hv hi9 rfl (fun ls' h' => k p e s m args below meth c H locs A ls' Qc free hC hA hR (by simpa using hn) (zL_set1 rfl hi9 h1 h') hE)
theorem z_iret {v : Int32} (hd : decode M.2.1 pc = .ok (.ireturn, 1)) (hr : M.2.2.2.1 = some .int) (hcu : cu ≤ mc) (hsu : su ≤ ms) (hq : Q (some (.int v)) hp) : Z l D M mc ms Q hp cu su pc lv ([.int v]) := by
  intro p e s m args below meth c H locs A ls Qc free hC hA hR hn hL hE
  obtain ⟨h1, h2⟩ := hE _ _ _ _ hR hq
  refine W.widen hcu hsu ?_
  exact W.iret hC.1 hC.2.1 (hC.2.2.2.2.2.2.1.trans hr) h1 h2 hd hC.2.2.2.2.2.1
theorem z_zret {v : Int32} {ty : FieldType} (hd : decode M.2.1 pc = .ok (.ireturn, 1)) (hr : M.2.2.2.1 = some ty) (hnar : narrow ty (.int v) = .int v) (hcu : cu ≤ mc) (hsu : su ≤ ms) (hq : Q (some (.int v)) hp) : Z l D M mc ms Q hp cu su pc lv ([.int v]) := by
  intro p e s m args below meth c H locs A ls Qc free hC hA hR hn hL hE
  obtain ⟨h1, h2⟩ := hE _ _ _ _ hR hq
  refine W.widen hcu hsu ?_
  exact W.zret hC.1 hC.2.1 (hC.2.2.2.2.2.2.1.trans hr) hnar h1 h2 hd hC.2.2.2.2.2.1
theorem z_lret {v : Int64} (hd : decode M.2.1 pc = .ok (.lreturn, 1)) (hr : M.2.2.2.1 = some .long) (hcu : cu ≤ mc) (hsu : su ≤ ms) (hq : Q (some (.long v)) hp) : Z l D M mc ms Q hp cu su pc lv ([.long v]) := by
  intro p e s m args below meth c H locs A ls Qc free hC hA hR hn hL hE
  obtain ⟨h1, h2⟩ := hE _ _ _ _ hR hq
  refine W.widen hcu hsu ?_
  exact W.lret hC.1 hC.2.1 (hC.2.2.2.2.2.2.1.trans hr) h1 h2 hd hC.2.2.2.2.2.1
theorem z_vret (hd : decode M.2.1 pc = .ok (.return_, 1)) (hr : M.2.2.2.1 = none) (hcu : cu ≤ mc) (hsu : su ≤ ms) (hq : Q (none) hp) : Z l D M mc ms Q hp cu su pc lv ([]) := by
  intro p e s m args below meth c H locs A ls Qc free hC hA hR hn hL hE
  obtain ⟨h1, h2⟩ := hE _ _ _ _ hR hq
  refine W.widen hcu hsu ?_
  exact W.vret hC.1 hC.2.1 (hC.2.2.2.2.2.2.1.trans hr) h1 h2 hd hC.2.2.2.2.2.1
theorem z_aret {r : Option Nat} {rt : FieldType} (hd : decode M.2.1 pc = .ok (.areturn, 1)) (hr : M.2.2.2.1 = some rt) (hrt : (∃ n, rt = .object n) ∨ ∃ t, rt = .array t) (hcu : cu ≤ mc) (hsu : su ≤ ms) (hq : Q (some (va_rf r)) hp) : Z l D M mc ms Q hp cu su pc lv ([va_rf r]) := by
  intro p e s m args below meth c H locs A ls Qc free hC hA hR hn hL hE
  obtain ⟨h1, h2⟩ := hE _ _ _ _ hR hq
  refine W.widen hcu hsu ?_
  exact W.aret hC.1 hC.2.1 (hC.2.2.2.2.2.2.1.trans hr) hrt (by cases r with | none => exact Or.inl rfl | some a => exact Or.inr ⟨a, rfl⟩) h1 h2 hd hC.2.2.2.2.2.1
end ZK
end
section
/-! Z, continued: fields, arrays, new cells, calls. Own work, over the kit's rows. -/
theorem zR_set {A : Nat → Prop} {ws : va_W} {hp : zH} {a k : Nat} {e0 x0 : va_E} (hw : ∀ b x, hp b = some x ↔ ∃ j : Nat, ws[j]? = some (b, x)) (hD : va_D A ws) (hk : ws[k]? = some (a, e0)) : ∀ b x, zset hp a x0 b = some x ↔ ∃ j : Nat, (ws.set k (a, x0))[j]? = some (b, x) := by
  have hkl : k < ws.length := (List.getElem?_eq_some_iff.mp hk).1
  intro b x
  by_cases hb : b = a
  · subst hb
    rw [zset_self]
    constructor
    · intro h
      cases h
      exact ⟨k, by rw [List.getElem?_set_self hkl]⟩
    · rintro ⟨j, hj⟩
      by_cases hjk : j = k
      · subst hjk
        rw [List.getElem?_set_self hkl] at hj
        cases hj
        rfl
      · rw [List.getElem?_set_ne (fun q => hjk q.symm)] at hj
        exact absurd (hD.1 j k _ _ hj hk rfl) hjk
  · rw [zset_ne hb, hw]
    constructor
    · rintro ⟨j, hj⟩
      have hjk : j ≠ k := by
        rintro rfl
        rw [hk] at hj
        cases hj
        exact hb rfl
      exact ⟨j, by rw [List.getElem?_set_ne (fun q => hjk q.symm)]; exact hj⟩
    · rintro ⟨j, hj⟩
      by_cases hjk : j = k
      · subst hjk
        rw [List.getElem?_set_self hkl] at hj
        cases hj
        exact absurd rfl hb
      · rw [List.getElem?_set_ne (fun q => hjk q.symm)] at hj
        exact ⟨j, hj⟩
theorem zR_push {A : Nat → Prop} {ws : va_W} {hp : zH} {q : Nat} {x0 : va_E} (hw : ∀ b x, hp b = some x ↔ ∃ j : Nat, ws[j]? = some (b, x)) (hD : va_D A (ws ++ [(q, x0)])) : hp q = none ∧ ∀ b x, zset hp q x0 b = some x ↔ ∃ j : Nat, (ws ++ [(q, x0)])[j]? = some (b, x) := by
  have hq : hp q = none := by
    cases h : hp q with
    | none => rfl
    | some x =>
      obtain ⟨j, hj⟩ := (hw q x).1 h
      have hl := (List.getElem?_eq_some_iff.mp hj).1
      have h1 : (ws ++ [(q, x0)])[j]? = some (q, x) := by rw [List.getElem?_append_left hl]; exact hj
      have h2 : (ws ++ [(q, x0)])[ws.length]? = some (q, x0) := by simp
      have := hD.1 _ _ _ _ h1 h2 rfl
      omega
  refine ⟨hq, fun b x => ?_⟩
  by_cases hb : b = q
  · subst hb
    rw [zset_self]
    constructor
    · intro h
      cases h
      exact ⟨ws.length, by simp⟩
    · rintro ⟨j, hj⟩
      have h2 : (ws ++ [(b, x0)])[ws.length]? = some (b, x0) := by simp
      have := hD.1 _ _ _ _ hj h2 rfl
      subst this
      rw [h2] at hj
      cases hj
      rfl
  · rw [zset_ne hb, hw]
    constructor
    · rintro ⟨j, hj⟩
      exact ⟨j, by rw [List.getElem?_append_left (List.getElem?_eq_some_iff.mp hj).1]; exact hj⟩
    · rintro ⟨j, hj⟩
      by_cases hl : j < ws.length
      · rw [List.getElem?_append_left hl] at hj
        exact ⟨j, hj⟩
      · rw [List.getElem?_append_right (by omega)] at hj
        have : j - ws.length = 0 := by
          have := (List.getElem?_eq_some_iff.mp hj).1
          simp at this
          omega
        rw [this] at hj
        simp at hj
        exact absurd hj.1.symm hb
/-- a class of the system: its layout's words stand in the tables, its fields' types and names -/
def zCl (ci : Nat) (C : String) (T : u_T) (N : Nat) (ty : Nat → FieldType) : Prop := zcl[ci]? = some (C, T, N) ∧ (∀ w ∈ u_ws C T N, w ∈ zT) ∧ (∀ k, k < N → parseFieldDescriptor (T k).2.2.1 = some (ty k)) ∧ ∀ a, a < N → ∀ b, b < N → a ≠ b → (T a).2.1 ≠ (T b).2.1
/-- an instruction's field: its place in the class, its link, its type -/
def zFld (own : String) (index ci k : Nat) (t : FieldType) : Prop := ∃ (C : String) (T : u_T) (N : Nat) (ty : Nat → FieldType), zCl ci C T N ty ∧ k < N ∧ ty k = t ∧ (Cond.fieldLink own index (T k).1 (T k).2.1 (T k).2.2.1 ∈ zT ∨ ∃ host, Cond.fieldLinkNest own index (T k).1 (T k).2.1 (T k).2.2.1 host ∈ zNest)
/-- a field that the method may write -/
def zFldP (own nm : String) (index ci k : Nat) (t : FieldType) : Prop := ∃ (C : String) (T : u_T) (N : Nat) (ty : Nat → FieldType), zCl ci C T N ty ∧ k < N ∧ ty k = t ∧ (((T k).2.2.2 = false ∧ (Cond.fieldLink own index (T k).1 (T k).2.1 (T k).2.2.1 ∈ zT ∨ ∃ host, Cond.fieldLinkNest own index (T k).1 (T k).2.1 (T k).2.2.1 host ∈ zNest)) ∨ ((T k).2.2.2 = true ∧ nm = "<init>" ∧ (T k).1 = own ∧ Cond.fieldLink own index (T k).1 (T k).2.1 (T k).2.2.1 ∈ zT))
section ZF
variable {l : Launch} {D : zD} {M : zM} {mc ms : Nat} {Q : Option Value → zH → Prop} {hp : zH} {cu su pc : Nat} {lv : List (Option Value)} {rest : List Value}
theorem zC.t {p : Program} {s : State} {m : MethodId} {args : Array Value} {meth : Method} {c : Code} (h : zC D M p s m args meth c) : ∀ w ∈ zT, w.before args s = true := fun w hw => h.2.2.2.2.1 w (List.mem_cons_of_mem _ hw)
theorem zC.k {p : Program} {s : State} {m : MethodId} {args : Array Value} {meth : Method} {c : Code} (h : zC D M p s m args meth c) : zK D s := h.2.2.2.2.2.2.2.2
theorem zC.own {p : Program} {s : State} {m : MethodId} {args : Array Value} {meth : Method} {c : Code} (h : zC D M p s m args meth c) : s.vm.findClass M.1.cls = some m.cls := h.2.2.2.1
theorem z_get {index ci k a : Nat} {t : FieldType} {fs : List Value} {v : Value} (hd : decode M.2.1 pc = .ok (.getfield index, 3)) (pc' : Nat) (he : pc + 3 = pc') (hF : zFld M.1.cls index ci k t) (ha : hp a = some (.inr (ci, fs))) (hv : fs[k]? = some v) (kk : Z l D M mc ms Q hp cu su pc' lv (v :: rest)) : Z l D M mc ms Q hp cu su pc lv (.ref a :: rest) := by
  subst he
  intro p e s m args below meth c H locs A ls Qc free hC hA hR hn hL hE
  have hR0 := hR
  obtain ⟨ws, hP, hD, hS, hw⟩ := hR
  obtain ⟨q0, hq0⟩ := (hw _ _).1 ha
  obtain ⟨C, T, N, ty, ⟨hc, hin, -, -⟩, hk, -, hl⟩ := hF
  rcases hl with hl | ⟨host, hl⟩
  · exact va_get hC.1 hC.2.1 hC.t hin hC.own hC.k.1 hP q0 hq0 hc k hk (hC.t _ hl) (fun _ h => h) hv hd (kk p e s m args below meth c H locs A ls Qc free hC hA hR0 hn hL hE)
  · exact va_getN hC.1 hC.2.1 hC.t hin hC.own hC.k.1 hP q0 hq0 hc k hk (va_Nw.use rfl (hC.k.2.1 _ hl)) (fun _ h => h) hv hd (kk p e s m args below meth c H locs A ls Qc free hC hA hR0 hn hL hE)
theorem z_put {index ci k a : Nat} {t : FieldType} {fs fs' : List Value} {v : Value} (hd : decode M.2.1 pc = .ok (.putfield index, 3)) (pc' : Nat) (he : pc + 3 = pc') (hF : zFldP M.1.cls M.1.name index ci k t) (ha : hp a = some (.inr (ci, fs))) (hnar : narrow t v = v) (hfit : fits t v = true) (hl : k < fs.length) (hfs : fs.set k v = fs') (kk : Z l D M mc ms Q (zset hp a (.inr (ci, fs'))) cu su pc' lv rest) : Z l D M mc ms Q hp cu su pc lv (v :: .ref a :: rest) := by
  subst he
  intro p e s m args below meth c H locs A ls Qc free hC hA hR hn hL hE
  obtain ⟨ws, hP, hD, hS, hw⟩ := hR
  obtain ⟨q0, hq0⟩ := (hw _ _).1 ha
  subst hfs
  obtain ⟨C, T, N, ty, ⟨hc, hin, hty, hnm⟩, hk, ht, h5⟩ := hF
  have hty0 : parseFieldDescriptor (T k).2.2.1 = some t := by rw [← ht]; exact hty k hk
  have go : ∀ (H1 : Heap) (locs1 : List Loc), va_P D.1.1 zcl (ws.set q0 (a, .inr (ci, fs.set k v))) H1 → va_D A (ws.set q0 (a, .inr (ci, fs.set k v))) → va_S A s.heap H1 locs1 → W p l e (zrm M mc ms) s m args below meth c H1 locs1 cu su (MQ below Qc args s mc ms free) (F0 m (pc + 3) ls rest) := fun H1 locs1 hP1 hD1 hS1 =>
    kk p e s m args below meth c H1 locs1 A ls Qc free hC hA ⟨_, hP1, hD1, hS1, zR_set hw hD hq0⟩ hn hL hE
  rcases h5 with ⟨hf, h6 | ⟨host, h6⟩⟩ | ⟨hf, hi, ho, h6⟩
  · exact va_put hC.1 hC.2.1 hC.t hin ty hty hnm hC.own hC.k.1 hP hD hS q0 hq0 hc k hk (hC.t _ h6) (fun _ h => h) hf hty0 hnar hfit hl hd go
  · exact va_putN hC.1 hC.2.1 hC.t hin ty hty hnm hC.own hC.k.1 hP hD hS q0 hq0 hc k hk (va_Nw.use rfl (hC.k.2.1 _ h6)) (fun _ h => h) hf hty0 hnar hfit hl hd go
  · exact va_putF hC.1 hC.2.1 hC.t hin ty hty hnm hC.own hC.k.1 hP hD hS q0 hq0 hc k hk (hC.t _ h6) (fun _ h => h) hf (hC.2.2.2.2.2.2.2.1.trans hi) ho hty0 hnar hfit hl hd go
theorem z_iald {a n : Nat} {f : Nat → Int32} {i : Int32} (hd : decode M.2.1 pc = .ok (.iaload, 1)) (pc' : Nat) (he : pc + 1 = pc') (ha : hp a = some (.inl (D.2 1, n, .inl f))) (hin : vp_in i n) (kk : Z l D M mc ms Q hp cu su pc' lv (.int (f i.toNatClampNeg) :: rest)) : Z l D M mc ms Q hp cu su pc lv (.int i :: .ref a :: rest) := by
  subst he
  intro p e s m args below meth c H locs A ls Qc free hC hA hR hn hL hE
  have hR0 := hR
  obtain ⟨ws, hP, hD, hS, hw⟩ := hR
  obtain ⟨q0, hq0⟩ := (hw _ _).1 ha
  exact va_iald hC.1 hC.2.1 hC.k.1 hP q0 1 hq0 rfl hin hd (kk p e s m args below meth c H locs A ls Qc free hC hA hR0 hn hL hE)
theorem z_bald {a n : Nat} {f : Nat → Int32} {i : Int32} (hd : decode M.2.1 pc = .ok (.baload, 1)) (pc' : Nat) (he : pc + 1 = pc') (ha : hp a = some (.inl (D.2 0, n, .inl f))) (hin : vp_in i n) (kk : Z l D M mc ms Q hp cu su pc' lv (.int (f i.toNatClampNeg) :: rest)) : Z l D M mc ms Q hp cu su pc lv (.int i :: .ref a :: rest) := by
  subst he
  intro p e s m args below meth c H locs A ls Qc free hC hA hR hn hL hE
  have hR0 := hR
  obtain ⟨ws, hP, hD, hS, hw⟩ := hR
  obtain ⟨q0, hq0⟩ := (hw _ _).1 ha
  exact va_bald hC.1 hC.2.1 hC.k.1 hP q0 0 hq0 rfl hin hd (kk p e s m args below meth c H locs A ls Qc free hC hA hR0 hn hL hE)
theorem z_iast {a n : Nat} {f : Nat → Int32} {i x : Int32} (hd : decode M.2.1 pc = .ok (.iastore, 1)) (pc' : Nat) (he : pc + 1 = pc') (ha : hp a = some (.inl (D.2 1, n, .inl f))) (hin : vp_in i n) (kk : Z l D M mc ms Q (zset hp a (.inl (D.2 1, n, .inl (upd f i.toNatClampNeg x)))) cu su pc' lv rest) : Z l D M mc ms Q hp cu su pc lv (.int x :: .int i :: .ref a :: rest) := by
  subst he
  intro p e s m args below meth c H locs A ls Qc free hC hA hR hn hL hE
  obtain ⟨ws, hP, hD, hS, hw⟩ := hR
  obtain ⟨q0, hq0⟩ := (hw _ _).1 ha
  exact va_iast hC.1 hC.2.1 hC.k.1 hP hD hS q0 1 hq0 rfl hin hd (fun H1 locs1 hP1 hD1 hS1 => kk p e s m args below meth c H1 locs1 A ls Qc free hC hA ⟨_, hP1, hD1, hS1, zR_set hw hD hq0⟩ hn hL hE)
theorem z_bast {a n : Nat} {f : Nat → Int32} {i x : Int32} (hd : decode M.2.1 pc = .ok (.bastore, 1)) (pc' : Nat) (he : pc + 1 = pc') (ha : hp a = some (.inl (D.2 0, n, .inl f))) (hin : vp_in i n) (kk : Z l D M mc ms Q (zset hp a (.inl (D.2 0, n, .inl (upd f i.toNatClampNeg (vp_nar .byte x))))) cu su pc' lv rest) : Z l D M mc ms Q hp cu su pc lv (.int x :: .int i :: .ref a :: rest) := by
  subst he
  intro p e s m args below meth c H locs A ls Qc free hC hA hR hn hL hE
  obtain ⟨ws, hP, hD, hS, hw⟩ := hR
  obtain ⟨q0, hq0⟩ := (hw _ _).1 ha
  exact va_bast hC.1 hC.2.1 hC.k.1 hP hD hS q0 0 hq0 rfl hin hd (fun H1 locs1 hP1 hD1 hS1 => kk p e s m args below meth c H1 locs1 A ls Qc free hC hA ⟨_, hP1, hD1, hS1, zR_set hw hD hq0⟩ hn hL hE)
theorem z_alen {a t : Nat} {ty : FieldType} {x : vp_A} {v : Int32} (hd : decode M.2.1 pc = .ok (.arraylength, 1)) (pc' : Nat) (he : pc + 1 = pc') (ht : (zty D.2)[t]? = some (D.2 t, ty)) (ha : hp a = some (.inl (D.2 t, x))) (hv : Int32.ofNat x.1 = v) (kk : Z l D M mc ms Q hp cu su pc' lv (.int v :: rest)) : Z l D M mc ms Q hp cu su pc lv (.ref a :: rest) := by
  subst he
  intro p e s m args below meth c H locs A ls Qc free hC hA hR hn hL hE
  have hR0 := hR
  obtain ⟨ws, hP, hD, hS, hw⟩ := hR
  obtain ⟨q0, hq0⟩ := (hw _ _).1 ha
  exact va_alen hC.1 hC.2.1 hC.k.1 hP q0 t hq0 ht hv hd (kk p e s m args below meth c H locs A ls Qc free hC hA hR0 hn hL hE)
theorem z_aald {a t n : Nat} {C : String} {f : Nat → Option Nat} {i : Int32} (hd : decode M.2.1 pc = .ok (.aaload, 1)) (pc' : Nat) (he : pc + 1 = pc') (ht : (zty D.2)[t]? = some (D.2 t, .object C)) (ha : hp a = some (.inl (D.2 t, n, .inr (.inr (.inr (.inr f)))))) (hin : vp_in i n) (kk : Z l D M mc ms Q hp cu su pc' lv (va_rf (f i.toNatClampNeg) :: rest)) : Z l D M mc ms Q hp cu su pc lv (.int i :: .ref a :: rest) := by
  subst he
  intro p e s m args below meth c H locs A ls Qc free hC hA hR hn hL hE
  have hR0 := hR
  obtain ⟨ws, hP, hD, hS, hw⟩ := hR
  obtain ⟨q0, hq0⟩ := (hw _ _).1 ha
  exact va_aldq hC.1 hC.2.1 hC.k.1 hP q0 t hq0 ht hin hd (kk p e s m args below meth c H locs A ls Qc free hC hA hR0 hn hL hE)
theorem z_aast {a t n b ci : Nat} {r : vw_C} {vs : List Value} {f : Nat → Option Nat} {i : Int32} (hd : decode M.2.1 pc = .ok (.aastore, 1)) (pc' : Nat) (he : pc + 1 = pc') (ht : (zty D.2)[t]? = some (D.2 t, .object r.1)) (ha : hp a = some (.inl (D.2 t, n, .inr (.inr (.inr (.inr f)))))) (hb : hp b = some (.inr (ci, vs))) (hc : zcl[ci]? = some r) (hin : vp_in i n) (kk : Z l D M mc ms Q (zset hp a (.inl (D.2 t, n, .inr (.inr (.inr (.inr (va_up f i.toNatClampNeg (some b)))))))) cu su pc' lv rest) : Z l D M mc ms Q hp cu su pc lv (.ref b :: .int i :: .ref a :: rest) := by
  subst he
  intro p e s m args below meth c H locs A ls Qc free hC hA hR hn hL hE
  obtain ⟨ws, hP, hD, hS, hw⟩ := hR
  obtain ⟨q0, hq0⟩ := (hw _ _).1 ha
  obtain ⟨q1, hq1⟩ := (hw _ _).1 hb
  exact va_astq hC.1 hC.2.1 hC.k.1 hP hD hS q0 t q1 ci hq0 ht hq1 hc hin hd (fun H1 locs1 hP1 hD1 hS1 => kk p e s m args below meth c H1 locs1 A ls Qc free hC hA ⟨_, hP1, hD1, hS1, zR_set hw hD hq0⟩ hn hL hE)
theorem z_aastN {a t n : Nat} {C : String} {f : Nat → Option Nat} {i : Int32} (hd : decode M.2.1 pc = .ok (.aastore, 1)) (pc' : Nat) (he : pc + 1 = pc') (ht : (zty D.2)[t]? = some (D.2 t, .object C)) (ha : hp a = some (.inl (D.2 t, n, .inr (.inr (.inr (.inr f)))))) (hin : vp_in i n) (kk : Z l D M mc ms Q (zset hp a (.inl (D.2 t, n, .inr (.inr (.inr (.inr (va_up f i.toNatClampNeg none))))))) cu su pc' lv rest) : Z l D M mc ms Q hp cu su pc lv (.null :: .int i :: .ref a :: rest) := by
  subst he
  intro p e s m args below meth c H locs A ls Qc free hC hA hR hn hL hE
  obtain ⟨ws, hP, hD, hS, hw⟩ := hR
  obtain ⟨q0, hq0⟩ := (hw _ _).1 ha
  exact va_astqN hC.1 hC.2.1 hC.k.1 hP hD hS q0 t hq0 ht hin hd (fun H1 locs1 hP1 hD1 hS1 => kk p e s m args below meth c H1 locs1 A ls Qc free hC hA ⟨_, hP1, hD1, hS1, zR_set hw hD hq0⟩ hn hL hE)
def zNew (own : String) (index ci N : Nat) (fs : List Value) : Prop := ∃ (C : String) (T : u_T) (ty : Nat → FieldType), zCl ci C T N ty ∧ Cond.classLink own index C ∈ zT ∧ Cond.instantiable C N ∈ zT ∧ Cond.initialized C ∈ zT ∧ ∀ j, j < N → defaultValue (ty j) = vp_V fs j
theorem z_new {index ci N : Nat} {fs : List Value} (hd : decode M.2.1 pc = .ok (.new index, 3)) (pc' : Nat) (he : pc + 3 = pc') (hN : zNew M.1.cls index ci N fs) (hcu : cu + 1 ≤ mc) (hsu : su + N ≤ ms) (kk : ∀ q, hp q = none → Z l D M mc ms Q (zset hp q (.inr (ci, fs))) (cu + 1) (su + N) pc' lv (.ref q :: rest)) : Z l D M mc ms Q hp cu su pc lv rest := by
  subst he
  intro p e s m args below meth c H locs A ls Qc free hC hA hR hn hL hE
  obtain ⟨ws, hP, hD, hS, hw⟩ := hR
  obtain ⟨C, T, ty, ⟨hc, hin, hty, -⟩, h1, h2, h3, hfs⟩ := hN
  exact va_new hC.1 hC.2.1 hC.t hin ty hty hC.own (hC.t _ h1) (hC.t _ h2) (hC.t _ h3) hC.k.1 hP hD hS hA hc hfs hcu hsu hd (fun q H1 hP1 hD1 hS1 => kk q (zR_push hw hD1).1 p e s m args below meth c H1 locs A ls Qc free hC hA ⟨_, hP1, hD1, hS1, (zR_push hw hD1).2⟩ hn hL hE)
theorem z_newB {n : Int32} {N : Nat} (hd : decode M.2.1 pc = .ok (.newarray .byte, 2)) (pc' : Nat) (he : pc + 2 = pc') (hw9 : Cond.arrayClass .byte ∈ zT) (hn0 : ¬ n < 0) (hN : n.toNatClampNeg = N) (hcu : cu + 1 ≤ mc) (hsu : su + N ≤ ms) (hb : N ≤ 536870912) (kk : ∀ q, hp q = none → Z l D M mc ms Q (zset hp q (.inl (D.2 0, N, .inl (fun _ => 0)))) (cu + 1) (su + N) pc' lv (.ref q :: rest)) : Z l D M mc ms Q hp cu su pc lv (.int n :: rest) := by
  subst he
  intro p e s m args below meth c H locs A ls Qc free hC hA hR hn hL hE
  obtain ⟨ws, hP, hD, hS, hw⟩ := hR
  refine va_newa (a0 := (N, .inl (fun _ => 0))) (atype := .byte) (ty := .byte) hC.1 hC.2.1 (hC.t _ hw9) rfl hC.k.1 hP hD hS hA (fun _ => rfl) hn0 hN (by show N * 1 ≤ _; omega) hcu hsu hd (fun q cA H1 hK1 hP1 hD1 hS1 => ?_)
  have h1 := (hC.k.1.2 0 (D.2 0, .byte) rfl).2
  have h2 := (hK1.2 (zty D.2).length (cA, .byte) (by simp)).2
  have h3 : some cA = some (D.2 0) := h2.symm.trans h1
  cases h3
  exact kk q (zR_push hw hD1).1 p e s m args below meth c H1 locs A ls Qc free hC hA ⟨_, hP1, hD1, hS1, (zR_push hw hD1).2⟩ hn hL hE
theorem z_newI {n : Int32} {N : Nat} (hd : decode M.2.1 pc = .ok (.newarray .int, 2)) (pc' : Nat) (he : pc + 2 = pc') (hw9 : Cond.arrayClass .int ∈ zT) (hn0 : ¬ n < 0) (hN : n.toNatClampNeg = N) (hcu : cu + 1 ≤ mc) (hsu : su + N ≤ ms) (hb : N ≤ 100000000) (kk : ∀ q, hp q = none → Z l D M mc ms Q (zset hp q (.inl (D.2 1, N, .inl (fun _ => 0)))) (cu + 1) (su + N) pc' lv (.ref q :: rest)) : Z l D M mc ms Q hp cu su pc lv (.int n :: rest) := by
  subst he
  intro p e s m args below meth c H locs A ls Qc free hC hA hR hn hL hE
  obtain ⟨ws, hP, hD, hS, hw⟩ := hR
  refine va_newa (a0 := (N, .inl (fun _ => 0))) (atype := .int) (ty := .int) hC.1 hC.2.1 (hC.t _ hw9) rfl hC.k.1 hP hD hS hA (fun _ => rfl) hn0 hN (by show N * 4 ≤ _; omega) hcu hsu hd (fun q cA H1 hK1 hP1 hD1 hS1 => ?_)
  have h1 := (hC.k.1.2 1 (D.2 1, .int) rfl).2
  have h2 := (hK1.2 (zty D.2).length (cA, .int) (by simp)).2
  have h3 : some cA = some (D.2 1) := h2.symm.trans h1
  cases h3
  exact kk q (zR_push hw hD1).1 p e s m args below meth c H1 locs A ls Qc free hC hA ⟨_, hP1, hD1, hS1, (zR_push hw hD1).2⟩ hn hL hE
theorem z_anew {index t N : Nat} {n : Int32} {C : String} (hd : decode M.2.1 pc = .ok (.anewarray index, 3)) (pc' : Nat) (he : pc + 3 = pc') (hcl : Cond.classLink M.1.cls index C ∈ zT) (ho : C ∈ zOver) (ht : (zty D.2)[t]? = some (D.2 t, .object C)) (hn0 : ¬ n < 0) (hN : n.toNatClampNeg = N) (hcu : cu + 1 ≤ mc) (hsu : su + N ≤ ms) (hb : N ≤ 100000000) (kk : ∀ q, hp q = none → Z l D M mc ms Q (zset hp q (.inl (D.2 t, N, .inr (.inr (.inr (.inr (fun _ => none))))))) (cu + 1) (su + N) pc' lv (.ref q :: rest)) : Z l D M mc ms Q hp cu su pc lv (.int n :: rest) := by
  subst he
  intro p e s m args below meth c H locs A ls Qc free hC hA hR hn hL hE
  obtain ⟨ws, hP, hD, hS, hw⟩ := hR
  refine va_newq hC.1 hC.2.1 hC.own (hC.t _ hcl) (hC.k.2.2 _ ho) hC.k.1 hP hD hS hA hn0 hN (by omega) hcu hsu hd (fun q cA H1 hK1 hP1 hD1 hS1 => ?_)
  obtain ⟨-, -, -, -, -, h1⟩ := (hC.k.1.2 t (D.2 t, .object C) ht).2
  obtain ⟨-, -, -, -, -, h2⟩ := (hK1.2 (zty D.2).length (cA, .object C) (by simp)).2
  have h3 : some cA = some (D.2 t) := h2.symm.trans h1
  cases h3
  exact kk q (zR_push hw hD1).1 p e s m args below meth c H1 locs A ls Qc free hC hA ⟨_, hP1, hD1, hS1, (zR_push hw hD1).2⟩ hn hL hE
/-- arraycopy of ints or bytes -/
theorem z_copy {index t : Nat} {ty : FieldType} {a b n0 n1 sp dp n : Nat} {f g : Nat → Int32} (hd : decode M.2.1 pc = .ok (.invokestatic index, 3)) (pc' : Nat) (he : pc + 3 = pc') (hl9 : Cond.methodLink M.1.cls index arraycopyName ∈ zT) (hnat : Cond.native arraycopyName ∈ zT) (hst : Cond.static arraycopyName ∈ zT) (hini : Cond.initialized "java/lang/System" ∈ zT)
    (ht : (zty D.2)[t]? = some (D.2 t, ty)) (hprim : refKind ty = false) (ha : hp a = some (.inl (D.2 t, n0, .inl f))) (hb : hp b = some (.inl (D.2 t, n1, .inl g))) (h4 : sp + n ≤ n0) (h5 : dp + n ≤ n1) (hz : n0 < 2 ^ 31) (hz1 : n1 < 2 ^ 31) (hfit : ∀ i, i < n → fits ty (.int (f (sp + i))) = true)
    (hfr : 1 ≤ M.2.2.2.2.1) (hlo : (rest.map fun v => v.category).sum + (nativeFrameWords "java/lang/System" "arraycopy" 5 + 11) ≤ M.2.2.2.2.2)
    (kk : Z l D M mc ms Q (zset hp b (.inl (D.2 t, n1, .inl (va_cpy f g sp dp n)))) cu su pc' lv rest) : Z l D M mc ms Q hp cu su pc lv (.int (nI n) :: .int (nI dp) :: .ref b :: .int (nI sp) :: .ref a :: rest) := by
  subst he
  intro p e s m args below meth c H locs A ls Qc free hC hA hR hn hL hE
  obtain ⟨ws, hP, hD, hS, hw⟩ := hR
  obtain ⟨q0, hq0⟩ := (hw _ _).1 ha
  obtain ⟨q1, hq1⟩ := (hw _ _).1 hb
  have e1 := nI_clamp (n := sp) (by omega)
  have e2 := nI_clamp (n := dp) (by omega)
  have e3 := nI_clamp (n := n) (by omega)
  refine va_copyi hC.1 hC.2.1 (by rw [hC.2.2.1, ← hn]; exact hL.1.symm) hC.own (hC.t _ hl9) (hC.t _ hnat) (hC.t _ hst) (hC.t _ hini) hC.k.1 hP hD hS q0 q1 t t hq0 hq1 ht ht hprim (nI_pos (by omega)) (nI_pos (by omega)) (nI_pos (by omega)) (by rw [e1, e3]; exact h4) (by rw [e2, e3]; exact h5) (by rw [e1, e3]; exact hfit) hfr hlo hd (fun H1 locs1 hP1 hD1 hS1 => ?_)
  rw [e1, e2, e3] at hP1 hD1
  exact kk p e s m args below meth c H1 locs1 A ls Qc free hC hA ⟨_, hP1, hD1, hS1, zR_set hw hD hq1⟩ hn hL hE
theorem z_objInit {index a : Nat} (hd : decode M.2.1 pc = .ok (.invokespecial index, 3)) (pc' : Nat) (he : pc + 3 = pc') (hl9 : Cond.methodLink M.1.cls index Lib.objectInit ∈ zT) (hi : Cond.instanceMethod Lib.objectInit ∈ zT) (hc9 : Cond.code Lib.objectInit ⟨#[0xb1]⟩ 1 none ∈ zT) (hfr : 1 ≤ M.2.2.2.2.1) (hlo : (rest.map fun v => v.category).sum + 12 ≤ M.2.2.2.2.2) (kk : Z l D M mc ms Q hp cu su pc' lv rest) : Z l D M mc ms Q hp cu su pc lv (.ref a :: rest) := by
  subst he
  intro p e s m args below meth c H locs A ls Qc free hC hA hR hn hL hE
  refine W.objInit hC.1 hC.2.1 hC.own (hC.t _ hl9) (hC.t _ hi) (hC.t _ hc9) rfl (by rw [hC.2.2.1, ← hn]; exact hL.1) rfl hd hfr (by show _ ≤ M.2.2.2.2.2; simpa [JFrame.monitorRoom] using hlo) ?_
  exact W.eq (g2 := F0 m (pc + 3) ls rest) rfl (kk p e s m args below meth c H locs A ls Qc free hC hA hR hn hL hE)
end ZF
end
section
/-! Z, continued: a method's start, calls. Own work, over the kit's rows. -/
def zar : List Value → List (Option Value)
  | [] => []
  | v :: vs => if v.category = 2 then some v :: none :: zar vs else some v :: zar vs
theorem zar_pairs : ∀ (vs : List Value) (i : Nat), zpairs i (zar vs) = lv_args i vs := by
  intro vs
  induction vs with
  | nil => intro i; rfl
  | cons v t ih =>
    intro i
    by_cases h : v.category = 2
    · simp only [zar, lv_args, if_pos h, zpairs, ih]
    · simp only [zar, lv_args, if_neg h, zpairs, ih]
theorem zar_len : ∀ vs : List Value, (zar vs).length = (lg_sl vs).length := by
  intro vs
  induction vs with
  | nil => rfl
  | cons v t ih =>
    by_cases h : v.category = 2
    · simp only [zar, if_pos h, List.length_cons, ih, lg_sl, List.flatMap_cons, List.length_append]
      simp only [List.length_nil]
      omega
    · simp only [zar, if_neg h, List.length_cons, ih, lg_sl, List.flatMap_cons, List.length_append]
      simp only [List.length_nil]
      omega
theorem zpairs_pad : ∀ (l : List (Option Value)) (i k : Nat), zpairs i (l ++ List.replicate k none) = zpairs i l := by
  intro l
  induction l with
  | nil =>
    intro i k
    induction k generalizing i with
    | zero => rfl
    | succ k ih => simp only [List.nil_append, List.replicate_succ, zpairs]; exact ih (i + 1)
  | cons x t ih =>
    intro i k
    cases x with
    | none => simp only [List.cons_append, zpairs]; exact ih _ _
    | some v => simp only [List.cons_append, zpairs]; rw [ih]
theorem zK.same {D : zD} {s U : State} (h : s.vm = U.vm) (hN : zNest.all zisN = true) (hK : zK D s) : zK D U := by
  have ha : s.vm.Alike U.vm := h ▸ Vm.Alike.refl s.vm
  refine ⟨va_K.moved ha hK.1, fun w hw => ?_, fun C hC => va_AO.moved ha (hK.2.2 C hC)⟩
  have h1 := List.all_eq_true.mp hN w hw
  have h2 := hK.2.1 w hw
  cases w <;> first | exact va_Nw.same rfl h h2 | (simp [zisN] at h1)
theorem zK.warm {D : zD} {s U : State} (hW : s.WarmedH U.vm) (hN : zNest.all zisN = true) (hK : zK D s) : zK D U := by
  refine ⟨va_K.moved hW.alike hK.1, fun w hw => ?_, fun C hC => va_AO.moved hW.alike (hK.2.2 C hC)⟩
  have h1 := List.all_eq_true.mp hN w hw
  have h2 := hK.2.1 w hw
  cases w <;> first | exact va_Nw.warmF hW h2 | exact va_Nw.warmM hW h2 | (simp [zisN] at h1)
section ZS
variable {l : Launch} {D : zD} {M : zM} {mc ms : Nat} {Q : Option Value → zH → Prop} {hp : zH} {cu su pc : Nat} {lv : List (Option Value)} {rest : List Value}
theorem Runs.of {as : List Value} (hy : plainName M.1.cls = true) (hlv : zar as ++ List.replicate (M.2.2.1 - (zar as).length) none = lv) (hlen : (zar as).length ≤ M.2.2.1) (hz : Z l D M mc ms Q hp 0 0 0 lv []) : Runs l D M as hp mc ms Q := by
  intro nx
  refine Met.ofW (cc := M.2.1) (maxL := M.2.2.1) (ret := M.2.2.2.1) hy rfl ?_
  intro p e s m args below meth c s₁ B hml hv
  obtain ⟨rfl, hK, ws, hP, hD, hw, hsz⟩ := hv
  have hts := atoms_spec (ws := zw M) B.pre
  have hown : s.vm.findClass M.1.cls = some m.cls := findClass_of_methodNamed B.named
  have hin : meth.name = M.1.name := (name_of_methodNamed B.named B.method).1
  have hl := lv_entry as (n := M.2.2.1) (by rw [← zar_len]; exact hlen)
  have hll : lv.length = M.2.2.1 := by
    rw [← hlv]
    simp only [List.length_append, List.length_replicate]
    omega
  rw [lg_entry_eq]
  refine hz p e s m as.toArray below meth c s.heap [] (zA hp nx) _ (zQc D hp nx Q) (zA hp nx) ⟨B.exec, B.bytes, hml, hown, hts, B.notSynchronized, B.returns, hin, hK⟩ (fun q hq => Or.inr (hsz ▸ hq)) ⟨ws, hP, ⟨hD.1, fun k q hk => Or.inl (by rw [(hw q.1 q.2).2 ⟨k, hk⟩]; exact fun h => by cases h)⟩, va_S.rf, hw⟩ hll ?_ (fun r hp' H' locs' hR' hq => ?_)
  · show lv_has _ lv.length (zpairs 0 lv)
    rw [hll, ← hlv, zpairs_pad, zar_pairs]
    exact hl
  · obtain ⟨ws', hP', hD', hS', hw'⟩ := hR'
    exact ⟨fun t ht hW => ⟨⟨r, hp', rfl, hq, ws', by rw [ht]; exact hP', hD', hw'⟩, hS'.F ht⟩, hS'.2.2⟩
theorem z_after {p : Program} {e : Env} {R : Room} {s : State} {m : MethodId} {args : Array Value} {below : List Frame} {meth : Method} {c : Code} {H : Heap} {locs : List Loc} {A : Nat → Prop} {ls : Array Slot} {Qf : State → Prop} {mc' ms' : Nat} {Q' : Option Value → zH → Prop} {av : Array Value} {st : List Value}
    (hr : va_Run p l e R s m args below meth c H locs cu su mc' ms' (F0 m pc ls st) rest (zQc D hp H.size Q' av) (zA hp H.size)) (hR : zR D A s.heap hp H locs) (hA : ∀ q, s.heap.size ≤ q → A q)
    (kk : ∀ (r : Option Value) (hp' : zH) (H1 : Heap) (locs1 : List Loc), Q' r hp' → zR D A s.heap hp' H1 locs1 → W p l e R s m args below meth c H1 locs1 (cu + mc') (su + ms') Qf (F0 m (pc + 3) ls (r.toList ++ rest))) : W p l e R s m args below meth c H locs cu su Qf (F0 m pc ls st) := by
  intro T hT X
  obtain ⟨v, st₀, t, T', L, h0, X', hL, e1, e2, ⟨⟨r, hp', hv, hq, ws', hP', hD', hw'⟩, hz, hk⟩, st⟩ := hr T hT X
  cases hv
  rw [h0] at hz hk
  obtain ⟨ws, hP, hD, hS, hw⟩ := hR
  have hsub : ∀ q, zA hp H.size q → A q := by
    rintro q (h | h)
    · cases hx : hp q with
      | none => exact absurd hx h
      | some x =>
        obtain ⟨k, hk⟩ := (hw q x).1 hx
        exact hD.2 k _ hk
    · exact hA q (Nat.le_trans hS.1 h)
  obtain ⟨t2, a1, b1⟩ := kk v hp' T'.heap (locs ++ L) hq ⟨ws', by rw [e1]; exact hP', hD'.weaken (fun _ q _ h => hsub q.1 h), ⟨Nat.le_trans hS.1 (by rw [e1]; exact hz), fun q h1 h2 => by rw [e1, hk q (Nat.lt_of_lt_of_le h1 hS.1) (fun z => h2 (hsub q z))]; exact hS.2.1 q h1 h2, fun q hq => by
      rcases List.mem_append.mp hq with h | h
      · exact hS.2.2 q h
      · exact hsub _ (hL q h)⟩, hw'⟩ T' rfl X'
  exact ⟨t2, st t2 a1, b1⟩
/-- what a call needs of the tables and of the room -/
def zCB (M M' : zM) (n : Nat) : Prop := Cond.code M'.1 M'.2.1 M'.2.2.1 M'.2.2.2.1 ∈ zT ∧ Cond.initialized M'.1.cls ∈ zT ∧ (M'.1.cls ≠ "java/lang/invoke/MethodHandle" ∧ M'.1.cls ≠ "java/lang/invoke/VarHandle" ∧ (parseMethodDescriptor M'.1.desc).map (fun d => d.parameters.length) = some n) ∧ M'.2.2.2.2.1 + 1 ≤ M.2.2.2.2.1 ∧ 8 + (M'.2.2.1 + 11) + M'.2.2.2.2.2 ≤ M.2.2.2.2.2
def zLk (own : String) (y : MethodName) (index : Nat) : Prop := Cond.methodLink own index y ∈ zT ∨ ∃ host, Cond.methodLinkNest own index y host ∈ zNest
theorem zIn {M M' : zM} {n : Nat} (hG : GoodIn zT zT) (hB : zCB M M' n) : GoodIn (zw M) (zw M') := by
  intro w hw
  rcases List.mem_cons.mp hw with rfl | h
  · exact ⟨List.mem_cons_of_mem _ hB.1, (hG _ hB.1).2⟩
  · exact ⟨List.mem_cons_of_mem _ h, (hG _ h).2⟩
theorem zpre {s : State} {H : Heap} {as : List Value} {ws : va_W} {A : Nat → Prop} (hN : zNest.all zisN = true) (hK : zK D s) (hP : va_P D.1.1 zcl ws H) (hD : va_D A ws) (hw : ∀ a x, hp a = some x ↔ ∃ k : Nat, ws[k]? = some (a, x)) : PreS s H (zPc D as hp H.size) as :=
  ⟨fun _ U _ _ h => ⟨h.1, zK.same (s := U) rfl hN h.2.1, h.2.2⟩, fun U hU hW => ⟨rfl, zK.warm hW hN hK, ws, by rw [hU]; exact hP, hD.weaken (fun _ _ _ _ => trivial), hw, by rw [hU]⟩⟩
theorem z_callS {index n mc' ms' : Nat} {M' : zM} {as st : List Value} {Q' : Option Value → zH → Prop} (hd : decode M.2.1 pc = .ok (.invokestatic index, 3)) (pc' : Nat) (he : pc + 3 = pc') (hB : zCB M M' n) (hl : zLk M.1.cls M'.1 index) (hst : Cond.static M'.1 ∈ zT) (hr : Runs l D M' as hp mc' ms' Q') (hn : as.length = n) (hs : st = as.reverse ++ rest) (hrest : (rest.map fun v => v.category).sum ≤ 8) (hcu : cu + mc' ≤ mc) (hsu : su + ms' ≤ ms)
    (kk : ∀ (r : Option Value) (hp' : zH), Q' r hp' → Z l D M mc ms Q hp' (cu + mc') (su + ms') pc' lv (r.toList ++ rest)) : Z l D M mc ms Q hp cu su pc lv st := by
  subst he
  intro p e s m args below meth c H locs A ls Qc free hC hA hR hn9 hL hE
  have hR0 := hR
  obtain ⟨ws, hP, hD, hS, hw⟩ := hR
  have hG := zIn (M := M) zGd hB
  have hsz : ls.size = M.2.2.1 := hL.1.trans hn9
  have hpre := zpre (as := as) zNs hC.k hP hD hw
  refine z_after (D := D) (hp := hp) (Q' := Q') (av := as.toArray) (mc' := mc') (ms' := ms') (st := st) (rest := rest) ?_ hR0 hA (fun r hp' H1 locs1 hq hR1 => kk r hp' hq p e s m args below meth c H1 locs1 A ls Qc free hC hA hR1 hn9 hL hE)
  rcases hl with hl | ⟨host, hl⟩
  · exact va_runS ⟨hC.1, hC.2.1, hC.2.2.1, hC.own, hC.2.2.2.2.1⟩ (hr H.size) ⟨callB_of n hC.2.2.2.2.1 hG rfl rfl rfl (hC.t _ hB.2.1) (hC.t _ hl) hB.2.2.1 hB.2.2.2, hC.t _ hst⟩ hpre rfl hn hsz hs (lv_room hrest) hd ⟨hcu, hsu⟩
  · exact va_runSN ⟨hC.1, hC.2.1, hC.2.2.1, hC.own, hC.2.2.2.2.1⟩ (hr H.size) ⟨va_cnB n hC.2.2.2.2.1 hG rfl rfl rfl (hC.k.2.1 _ hl) (hC.t _ hB.2.1) hB.2.2.1 hB.2.2.2, hC.t _ hst, trivial⟩ hpre rfl hn hsz hs (lv_room hrest) hd ⟨hcu, hsu⟩
theorem z_callI {index n mc' ms' b : Nat} {M' : zM} {as st : List Value} {Q' : Option Value → zH → Prop} (hd : decode M.2.1 pc = .ok (.invokespecial index, 3)) (pc' : Nat) (he : pc + 3 = pc') (hB : zCB M M' n) (hl : zLk M.1.cls M'.1 index) (hin : Cond.instanceMethod M'.1 ∈ zT) (hnm : M'.1.name = "<init>") (hret : M'.2.2.2.1 = none) (hr : Runs l D M' (.ref b :: as) hp mc' ms' Q') (hn : as.length = n) (hs : st = as.reverse ++ .ref b :: rest) (hrest : (rest.map fun v => v.category).sum ≤ 8) (hcu : cu + mc' ≤ mc) (hsu : su + ms' ≤ ms)
    (kk : ∀ (r : Option Value) (hp' : zH), Q' r hp' → Z l D M mc ms Q hp' (cu + mc') (su + ms') pc' lv (r.toList ++ rest)) : Z l D M mc ms Q hp cu su pc lv st := by
  subst he
  intro p e s m args below meth c H locs A ls Qc free hC hA hR hn9 hL hE
  have hR0 := hR
  obtain ⟨ws, hP, hD, hS, hw⟩ := hR
  have hG := zIn (M := M) zGd hB
  have hsz : ls.size = M.2.2.1 := hL.1.trans hn9
  have hpre := zpre (as := .ref b :: as) zNs hC.k hP hD hw
  have hwn : zw M' = Cond.code M'.1 M'.2.1 M'.2.2.1 none :: zT := by rw [← hret]; rfl
  refine z_after (D := D) (hp := hp) (Q' := Q') (av := (Value.ref b :: as).toArray) (mc' := mc') (ms' := ms') (st := st) (rest := rest) ?_ hR0 hA (fun r hp' H1 locs1 hq hR1 => kk r hp' hq p e s m args below meth c H1 locs1 A ls Qc free hC hA hR1 hn9 hL hE)
  rcases hl with hl | ⟨host, hl⟩
  · exact va_runI ⟨hC.1, hC.2.1, hC.2.2.1, hC.own, hC.2.2.2.2.1⟩ (hr H.size) ⟨callB_of n hC.2.2.2.2.1 hG hwn rfl rfl (hC.t _ hB.2.1) (hC.t _ hl) hB.2.2.1 hB.2.2.2, hnm, hC.t _ hin⟩ hpre rfl hn hsz hs (lv_room hrest) hd ⟨hcu, hsu⟩
  · exact va_runIN ⟨hC.1, hC.2.1, hC.2.2.1, hC.own, hC.2.2.2.2.1⟩ (hr H.size) ⟨va_cnB n hC.2.2.2.2.1 hG hwn rfl rfl (hC.k.2.1 _ hl) (hC.t _ hB.2.1) hB.2.2.1 hB.2.2.2, hnm, hC.t _ hin⟩ hpre rfl hn hsz hs (lv_room hrest) hd ⟨hcu, hsu⟩
theorem z_callV {index n mc' ms' b ci : Nat} {M' : zM} {as st fs : List Value} {Q' : Option Value → zH → Prop} (hd : decode M.2.1 pc = .ok (.invokevirtual index, 3)) (pc' : Nat) (he : pc + 3 = pc') (hB : zCB M M' n) (hl : zLk M.1.cls M'.1 index) (hin : Cond.instanceMethod M'.1 ∈ zT) (hsel : Cond.selects M'.1.cls M'.1 M'.1 ∈ zT) (hci : ∃ r : vw_C, zcl[ci]? = some r ∧ r.1 = M'.1.cls) (hb : hp b = some (.inr (ci, fs))) (hr : Runs l D M' (.ref b :: as) hp mc' ms' Q') (hn : as.length = n) (hs : st = as.reverse ++ .ref b :: rest) (hrest : (rest.map fun v => v.category).sum ≤ 8) (hcu : cu + mc' ≤ mc) (hsu : su + ms' ≤ ms)
    (kk : ∀ (r : Option Value) (hp' : zH), Q' r hp' → Z l D M mc ms Q hp' (cu + mc') (su + ms') pc' lv (r.toList ++ rest)) : Z l D M mc ms Q hp cu su pc lv st := by
  subst he
  intro p e s m args below meth c H locs A ls Qc free hC hA hR hn9 hL hE
  have hR0 := hR
  obtain ⟨ws, hP, hD, hS, hw⟩ := hR
  have hG := zIn (M := M) zGd hB
  have hsz : ls.size = M.2.2.1 := hL.1.trans hn9
  have hpre := zpre (as := .ref b :: as) zNs hC.k hP hD hw
  obtain ⟨r0, hr0, hr1⟩ := hci
  obtain ⟨q0, hq0⟩ := (hw _ _).1 hb
  have hrec := va_recv hC.k.1 hP hr0 hq0
  rw [hr1] at hrec
  have hpv : PreV s H M'.1.cls b (zPc D (.ref b :: as) hp H.size) as := ⟨hpre.1, hrec, hpre.2⟩
  refine z_after (D := D) (hp := hp) (Q' := Q') (av := (Value.ref b :: as).toArray) (mc' := mc') (ms' := ms') (st := st) (rest := rest) ?_ hR0 hA (fun r hp' H1 locs1 hq hR1 => kk r hp' hq p e s m args below meth c H1 locs1 A ls Qc free hC hA hR1 hn9 hL hE)
  rcases hl with hl | ⟨host, hl⟩
  · exact va_runV ⟨hC.1, hC.2.1, hC.2.2.1, hC.own, hC.2.2.2.2.1⟩ (hr H.size) ⟨callB_of n hC.2.2.2.2.1 hG rfl rfl rfl (hC.t _ hB.2.1) (hC.t _ hl) hB.2.2.1 hB.2.2.2, hC.t _ hin, hC.t _ hsel⟩ hpv rfl hn hsz hs (lv_room hrest) hd ⟨hcu, hsu⟩
  · exact va_runVN ⟨hC.1, hC.2.1, hC.2.2.1, hC.own, hC.2.2.2.2.1⟩ (hr H.size) ⟨va_cnB n hC.2.2.2.2.1 hG rfl rfl rfl (hC.k.2.1 _ hl) (hC.t _ hB.2.1) hB.2.2.1 hB.2.2.2, hC.t _ hin, hC.t _ hsel⟩ hpv rfl hn hsz hs (lv_room hrest) hd ⟨hcu, hsu⟩
/-- what a callee needs of the tables: static, virtual, a constructor -/
def zMB (M' : zM) (n : Nat) : Prop := Cond.code M'.1 M'.2.1 M'.2.2.1 M'.2.2.2.1 ∈ zT ∧ Cond.initialized M'.1.cls ∈ zT ∧ M'.1.cls ≠ "java/lang/invoke/MethodHandle" ∧ M'.1.cls ≠ "java/lang/invoke/VarHandle" ∧ (parseMethodDescriptor M'.1.desc).map (fun d => d.parameters.length) = some n
def zMS (M' : zM) (n : Nat) : Prop := zMB M' n ∧ Cond.static M'.1 ∈ zT
def zMV (M' : zM) (n ci : Nat) : Prop := zMB M' n ∧ Cond.instanceMethod M'.1 ∈ zT ∧ Cond.selects M'.1.cls M'.1 M'.1 ∈ zT ∧ ∃ r : vw_C, zcl[ci]? = some r ∧ r.1 = M'.1.cls
def zMI (M' : zM) (n : Nat) : Prop := zMB M' n ∧ Cond.instanceMethod M'.1 ∈ zT ∧ M'.1.name = "<init>" ∧ M'.2.2.2.1 = none
/-- the room for a call -/
abbrev zRm (M M' : zM) : Prop := M'.2.2.2.2.1 + 1 ≤ M.2.2.2.2.1 ∧ 8 + (M'.2.2.1 + 11) + M'.2.2.2.2.2 ≤ M.2.2.2.2.2
theorem zMB.cb {M' : zM} {n : Nat} (h : zMB M' n) (hR : zRm M M') : zCB M M' n := ⟨h.1, h.2.1, h.2.2, hR⟩
theorem z_cS {index n mc' ms' : Nat} {M' : zM} {as st : List Value} {Q' : Option Value → zH → Prop} (hd : decode M.2.1 pc = .ok (.invokestatic index, 3)) (pc' : Nat) (he : pc + 3 = pc') (hM : zMS M' n) (hl : zLk M.1.cls M'.1 index) (hR : zRm M M') (cu' su' : Nat) (ec : cu + mc' = cu') (es : su + ms' = su') (hcu : cu' ≤ mc) (hsu : su' ≤ ms) (hr : Runs l D M' (as) hp mc' ms' Q') (hn : as.length = n) (hs : st = as.reverse ++ rest) (hrest : (rest.map fun v => v.category).sum ≤ 8)
    (kk : ∀ (r : Option Value) (hp' : zH), Q' r hp' → Z l D M mc ms Q hp' cu' su' pc' lv (r.toList ++ rest)) : Z l D M mc ms Q hp cu su pc lv st := by
  subst ec
  subst es
  exact z_callS hd pc' he (hM.1.cb hR) hl hM.2 hr hn hs hrest hcu hsu kk
theorem z_cS1 {index n mc' ms' : Nat} {M' : zM} {as st : List Value} {v : Value} {hp' : zH} (hd : decode M.2.1 pc = .ok (.invokestatic index, 3)) (pc' : Nat) (he : pc + 3 = pc') (hM : zMS M' n) (hl : zLk M.1.cls M'.1 index) (hR : zRm M M') (cu' su' : Nat) (ec : cu + mc' = cu') (es : su + ms' = su') (hcu : cu' ≤ mc) (hsu : su' ≤ ms) (hr : ∀ Q' : Option Value → zH → Prop, Q' (some v) hp' → Runs l D M' (as) hp mc' ms' Q') (hn : as.length = n) (hs : st = as.reverse ++ rest) (hrest : (rest.map fun v => v.category).sum ≤ 8)
    (kk : Z l D M mc ms Q hp' cu' su' pc' lv (v :: rest)) : Z l D M mc ms Q hp cu su pc lv st := by
  refine z_cS (Q' := fun r h => r = some v ∧ h = hp') hd pc' he hM hl hR cu' su' ec es hcu hsu (hr _ ⟨rfl, rfl⟩) hn hs hrest ?_
  rintro r h ⟨rfl, rfl⟩
  exact kk
theorem z_cS0 {index n mc' ms' : Nat} {M' : zM} {as st : List Value} {hp' : zH} (hd : decode M.2.1 pc = .ok (.invokestatic index, 3)) (pc' : Nat) (he : pc + 3 = pc') (hM : zMS M' n) (hl : zLk M.1.cls M'.1 index) (hR : zRm M M') (cu' su' : Nat) (ec : cu + mc' = cu') (es : su + ms' = su') (hcu : cu' ≤ mc) (hsu : su' ≤ ms) (hr : ∀ Q' : Option Value → zH → Prop, Q' none hp' → Runs l D M' (as) hp mc' ms' Q') (hn : as.length = n) (hs : st = as.reverse ++ rest) (hrest : (rest.map fun v => v.category).sum ≤ 8)
    (kk : Z l D M mc ms Q hp' cu' su' pc' lv rest) : Z l D M mc ms Q hp cu su pc lv st := by
  refine z_cS (Q' := fun r h => r = none ∧ h = hp') hd pc' he hM hl hR cu' su' ec es hcu hsu (hr _ ⟨rfl, rfl⟩) hn hs hrest ?_
  rintro r h ⟨rfl, rfl⟩
  exact kk
theorem z_cV {index n mc' ms' b ci : Nat} {M' : zM} {as st : List Value} {fs : List Value} {Q' : Option Value → zH → Prop} (hd : decode M.2.1 pc = .ok (.invokevirtual index, 3)) (pc' : Nat) (he : pc + 3 = pc') (hM : zMV M' n ci) (hl : zLk M.1.cls M'.1 index) (hR : zRm M M') (cu' su' : Nat) (ec : cu + mc' = cu') (es : su + ms' = su') (hcu : cu' ≤ mc) (hsu : su' ≤ ms) (hb : hp b = some (.inr (ci, fs))) (hr : Runs l D M' (.ref b :: as) hp mc' ms' Q') (hn : as.length = n) (hs : st = as.reverse ++ .ref b :: rest) (hrest : (rest.map fun v => v.category).sum ≤ 8)
    (kk : ∀ (r : Option Value) (hp' : zH), Q' r hp' → Z l D M mc ms Q hp' cu' su' pc' lv (r.toList ++ rest)) : Z l D M mc ms Q hp cu su pc lv st := by
  subst ec
  subst es
  exact z_callV hd pc' he (hM.1.cb hR) hl hM.2.1 hM.2.2.1 hM.2.2.2 hb hr hn hs hrest hcu hsu kk
theorem z_cV1 {index n mc' ms' b ci : Nat} {M' : zM} {as st : List Value} {fs : List Value} {v : Value} {hp' : zH} (hd : decode M.2.1 pc = .ok (.invokevirtual index, 3)) (pc' : Nat) (he : pc + 3 = pc') (hM : zMV M' n ci) (hl : zLk M.1.cls M'.1 index) (hR : zRm M M') (cu' su' : Nat) (ec : cu + mc' = cu') (es : su + ms' = su') (hcu : cu' ≤ mc) (hsu : su' ≤ ms) (hb : hp b = some (.inr (ci, fs))) (hr : ∀ Q' : Option Value → zH → Prop, Q' (some v) hp' → Runs l D M' (.ref b :: as) hp mc' ms' Q') (hn : as.length = n) (hs : st = as.reverse ++ .ref b :: rest) (hrest : (rest.map fun v => v.category).sum ≤ 8)
    (kk : Z l D M mc ms Q hp' cu' su' pc' lv (v :: rest)) : Z l D M mc ms Q hp cu su pc lv st := by
  refine z_cV (Q' := fun r h => r = some v ∧ h = hp') hd pc' he hM hl hR cu' su' ec es hcu hsu hb (hr _ ⟨rfl, rfl⟩) hn hs hrest ?_
  rintro r h ⟨rfl, rfl⟩
  exact kk
theorem z_cV0 {index n mc' ms' b ci : Nat} {M' : zM} {as st : List Value} {fs : List Value} {hp' : zH} (hd : decode M.2.1 pc = .ok (.invokevirtual index, 3)) (pc' : Nat) (he : pc + 3 = pc') (hM : zMV M' n ci) (hl : zLk M.1.cls M'.1 index) (hR : zRm M M') (cu' su' : Nat) (ec : cu + mc' = cu') (es : su + ms' = su') (hcu : cu' ≤ mc) (hsu : su' ≤ ms) (hb : hp b = some (.inr (ci, fs))) (hr : ∀ Q' : Option Value → zH → Prop, Q' none hp' → Runs l D M' (.ref b :: as) hp mc' ms' Q') (hn : as.length = n) (hs : st = as.reverse ++ .ref b :: rest) (hrest : (rest.map fun v => v.category).sum ≤ 8)
    (kk : Z l D M mc ms Q hp' cu' su' pc' lv rest) : Z l D M mc ms Q hp cu su pc lv st := by
  refine z_cV (Q' := fun r h => r = none ∧ h = hp') hd pc' he hM hl hR cu' su' ec es hcu hsu hb (hr _ ⟨rfl, rfl⟩) hn hs hrest ?_
  rintro r h ⟨rfl, rfl⟩
  exact kk
theorem z_cI {index n mc' ms' b : Nat} {M' : zM} {as st : List Value} {Q' : Option Value → zH → Prop} (hd : decode M.2.1 pc = .ok (.invokespecial index, 3)) (pc' : Nat) (he : pc + 3 = pc') (hM : zMI M' n) (hl : zLk M.1.cls M'.1 index) (hR : zRm M M') (cu' su' : Nat) (ec : cu + mc' = cu') (es : su + ms' = su') (hcu : cu' ≤ mc) (hsu : su' ≤ ms) (hr : Runs l D M' (.ref b :: as) hp mc' ms' Q') (hn : as.length = n) (hs : st = as.reverse ++ .ref b :: rest) (hrest : (rest.map fun v => v.category).sum ≤ 8)
    (kk : ∀ (r : Option Value) (hp' : zH), Q' r hp' → Z l D M mc ms Q hp' cu' su' pc' lv (r.toList ++ rest)) : Z l D M mc ms Q hp cu su pc lv st := by
  subst ec
  subst es
  exact z_callI hd pc' he (hM.1.cb hR) hl hM.2.1 hM.2.2.1 hM.2.2.2 hr hn hs hrest hcu hsu kk
theorem z_cI1 {index n mc' ms' b : Nat} {M' : zM} {as st : List Value} {v : Value} {hp' : zH} (hd : decode M.2.1 pc = .ok (.invokespecial index, 3)) (pc' : Nat) (he : pc + 3 = pc') (hM : zMI M' n) (hl : zLk M.1.cls M'.1 index) (hR : zRm M M') (cu' su' : Nat) (ec : cu + mc' = cu') (es : su + ms' = su') (hcu : cu' ≤ mc) (hsu : su' ≤ ms) (hr : ∀ Q' : Option Value → zH → Prop, Q' (some v) hp' → Runs l D M' (.ref b :: as) hp mc' ms' Q') (hn : as.length = n) (hs : st = as.reverse ++ .ref b :: rest) (hrest : (rest.map fun v => v.category).sum ≤ 8)
    (kk : Z l D M mc ms Q hp' cu' su' pc' lv (v :: rest)) : Z l D M mc ms Q hp cu su pc lv st := by
  refine z_cI (Q' := fun r h => r = some v ∧ h = hp') hd pc' he hM hl hR cu' su' ec es hcu hsu (hr _ ⟨rfl, rfl⟩) hn hs hrest ?_
  rintro r h ⟨rfl, rfl⟩
  exact kk
theorem z_cI0 {index n mc' ms' b : Nat} {M' : zM} {as st : List Value} {hp' : zH} (hd : decode M.2.1 pc = .ok (.invokespecial index, 3)) (pc' : Nat) (he : pc + 3 = pc') (hM : zMI M' n) (hl : zLk M.1.cls M'.1 index) (hR : zRm M M') (cu' su' : Nat) (ec : cu + mc' = cu') (es : su + ms' = su') (hcu : cu' ≤ mc) (hsu : su' ≤ ms) (hr : ∀ Q' : Option Value → zH → Prop, Q' none hp' → Runs l D M' (.ref b :: as) hp mc' ms' Q') (hn : as.length = n) (hs : st = as.reverse ++ .ref b :: rest) (hrest : (rest.map fun v => v.category).sum ≤ 8)
    (kk : Z l D M mc ms Q hp' cu' su' pc' lv rest) : Z l D M mc ms Q hp cu su pc lv st := by
  refine z_cI (Q' := fun r h => r = none ∧ h = hp') hd pc' he hM hl hR cu' su' ec es hcu hsu (hr _ ⟨rfl, rfl⟩) hn hs hrest ?_
  rintro r h ⟨rfl, rfl⟩
  exact kk
theorem Runs.mono {as : List Value} {Q' : Option Value → zH → Prop} (h : Runs l D M as hp mc ms Q) (hq : ∀ r hp', Q r hp' → Q' r hp') : Runs l D M as hp mc ms Q' := by
  intro nx
  refine MetFree.mono (h nx) (fun _ _ q => q) (fun _ _ _ _ _ q => q) (fun a s o s' _ q => ?_)
  obtain ⟨⟨⟨r, hp', h1, h2, h3⟩, h4⟩, h5⟩ := q
  exact ⟨⟨⟨r, hp', h1, hq r hp' h2, h3⟩, h4⟩, h5⟩
end ZS
end
section
/-! Z by pattern: locals by their places, numbers as nI. Own work. -/
section ZN
variable {l : Launch} {D : zD} {M : zM} {mc ms : Nat} {Q : Option Value → zH → Prop} {hp : zH} {cu su pc : Nat} {lv tl : List (Option Value)} {rest : List Value}
theorem z_ist0 {x : Int32} {a0 : Option Value} (hd : decode M.2.1 pc = .ok (.istore_n 0, 1)) (pc' : Nat) (he : pc + 1 = pc') (h1 : zn1 (a0 :: tl) 0 = true) (k : Z l D M mc ms Q hp cu su pc' (some (.int x) :: tl) rest) : Z l D M mc ms Q hp cu su pc (a0 :: tl) (.int x :: rest) :=
  z_istore_n (i := 0) hd pc' he rfl h1 (by simp) k
theorem z_ast0 {x : Nat} {a0 : Option Value} (hd : decode M.2.1 pc = .ok (.astore_n 0, 1)) (pc' : Nat) (he : pc + 1 = pc') (h1 : zn1 (a0 :: tl) 0 = true) (k : Z l D M mc ms Q hp cu su pc' (some (.ref x) :: tl) rest) : Z l D M mc ms Q hp cu su pc (a0 :: tl) (.ref x :: rest) :=
  z_astore_n (i := 0) hd pc' he rfl h1 (by simp) k
theorem z_astN0 {a0 : Option Value} (hd : decode M.2.1 pc = .ok (.astore_n 0, 1)) (pc' : Nat) (he : pc + 1 = pc') (h1 : zn1 (a0 :: tl) 0 = true) (k : Z l D M mc ms Q hp cu su pc' (some (.null) :: tl) rest) : Z l D M mc ms Q hp cu su pc (a0 :: tl) (.null :: rest) :=
  z_astore_nN (i := 0) hd pc' he rfl h1 (by simp) k
theorem z_astq0 {x : Option Nat} {a0 : Option Value} (hd : decode M.2.1 pc = .ok (.astore_n 0, 1)) (pc' : Nat) (he : pc + 1 = pc') (h1 : zn1 (a0 :: tl) 0 = true) (k : Z l D M mc ms Q hp cu su pc' (some (va_rf x) :: tl) rest) : Z l D M mc ms Q hp cu su pc (a0 :: tl) (va_rf x :: rest) :=
  z_astore_nq (i := 0) hd pc' he rfl h1 (by simp) k
theorem z_lst0 {x : Int64} {a0 a1 : Option Value} (hd : decode M.2.1 pc = .ok (.lstore_n 0, 1)) (pc' : Nat) (he : pc + 1 = pc') (h1 : zn1 (a0 :: a1 :: tl) 0 = true) (k : Z l D M mc ms Q hp cu su pc' (some (.long x) :: none :: tl) rest) : Z l D M mc ms Q hp cu su pc (a0 :: a1 :: tl) (.long x :: rest) :=
  z_lstore_n (i := 0) hd pc' he rfl h1 (by simp) k
theorem z_inc0 {n : Int} {x v : Int32} (hd : decode M.2.1 pc = .ok (.iinc 0 n, 3)) (pc' : Nat) (he : pc + 3 = pc') (hv : x + Int32.ofInt n = v) (h1 : zn1 (some (.int x) :: tl) 0 = true) (k : Z l D M mc ms Q hp cu su pc' (some (.int v) :: tl) rest) : Z l D M mc ms Q hp cu su pc (some (.int x) :: tl) rest :=
  z_iinc (i := 0) hd pc' he rfl hv h1 k
theorem z_incN0 {j : Nat} (hd : decode M.2.1 pc = .ok (.iinc 0 1, 3)) (pc' : Nat) (he : pc + 3 = pc') (h1 : zn1 (some (.int (nI j)) :: tl) 0 = true) (k : Z l D M mc ms Q hp cu su pc' (some (.int (nI (j + 1))) :: tl) rest) : Z l D M mc ms Q hp cu su pc (some (.int (nI j)) :: tl) rest :=
  z_iinc (i := 0) hd pc' he rfl (nI_succ j).symm h1 k
theorem z_ist1 {x : Int32} {a0 a1 : Option Value} (hd : decode M.2.1 pc = .ok (.istore_n 1, 1)) (pc' : Nat) (he : pc + 1 = pc') (h1 : zn1 (a0 :: a1 :: tl) 1 = true) (k : Z l D M mc ms Q hp cu su pc' (a0 :: some (.int x) :: tl) rest) : Z l D M mc ms Q hp cu su pc (a0 :: a1 :: tl) (.int x :: rest) :=
  z_istore_n (i := 1) hd pc' he rfl h1 (by simp) k
theorem z_ast1 {x : Nat} {a0 a1 : Option Value} (hd : decode M.2.1 pc = .ok (.astore_n 1, 1)) (pc' : Nat) (he : pc + 1 = pc') (h1 : zn1 (a0 :: a1 :: tl) 1 = true) (k : Z l D M mc ms Q hp cu su pc' (a0 :: some (.ref x) :: tl) rest) : Z l D M mc ms Q hp cu su pc (a0 :: a1 :: tl) (.ref x :: rest) :=
  z_astore_n (i := 1) hd pc' he rfl h1 (by simp) k
theorem z_astN1 {a0 a1 : Option Value} (hd : decode M.2.1 pc = .ok (.astore_n 1, 1)) (pc' : Nat) (he : pc + 1 = pc') (h1 : zn1 (a0 :: a1 :: tl) 1 = true) (k : Z l D M mc ms Q hp cu su pc' (a0 :: some (.null) :: tl) rest) : Z l D M mc ms Q hp cu su pc (a0 :: a1 :: tl) (.null :: rest) :=
  z_astore_nN (i := 1) hd pc' he rfl h1 (by simp) k
theorem z_astq1 {x : Option Nat} {a0 a1 : Option Value} (hd : decode M.2.1 pc = .ok (.astore_n 1, 1)) (pc' : Nat) (he : pc + 1 = pc') (h1 : zn1 (a0 :: a1 :: tl) 1 = true) (k : Z l D M mc ms Q hp cu su pc' (a0 :: some (va_rf x) :: tl) rest) : Z l D M mc ms Q hp cu su pc (a0 :: a1 :: tl) (va_rf x :: rest) :=
  z_astore_nq (i := 1) hd pc' he rfl h1 (by simp) k
theorem z_lst1 {x : Int64} {a0 a1 a2 : Option Value} (hd : decode M.2.1 pc = .ok (.lstore_n 1, 1)) (pc' : Nat) (he : pc + 1 = pc') (h1 : zn1 (a0 :: a1 :: a2 :: tl) 1 = true) (k : Z l D M mc ms Q hp cu su pc' (a0 :: some (.long x) :: none :: tl) rest) : Z l D M mc ms Q hp cu su pc (a0 :: a1 :: a2 :: tl) (.long x :: rest) :=
  z_lstore_n (i := 1) hd pc' he rfl h1 (by simp) k
theorem z_inc1 {n : Int} {x v : Int32} {a0 : Option Value} (hd : decode M.2.1 pc = .ok (.iinc 1 n, 3)) (pc' : Nat) (he : pc + 3 = pc') (hv : x + Int32.ofInt n = v) (h1 : zn1 (a0 :: some (.int x) :: tl) 1 = true) (k : Z l D M mc ms Q hp cu su pc' (a0 :: some (.int v) :: tl) rest) : Z l D M mc ms Q hp cu su pc (a0 :: some (.int x) :: tl) rest :=
  z_iinc (i := 1) hd pc' he rfl hv h1 k
theorem z_incN1 {j : Nat} {a0 : Option Value} (hd : decode M.2.1 pc = .ok (.iinc 1 1, 3)) (pc' : Nat) (he : pc + 3 = pc') (h1 : zn1 (a0 :: some (.int (nI j)) :: tl) 1 = true) (k : Z l D M mc ms Q hp cu su pc' (a0 :: some (.int (nI (j + 1))) :: tl) rest) : Z l D M mc ms Q hp cu su pc (a0 :: some (.int (nI j)) :: tl) rest :=
  z_iinc (i := 1) hd pc' he rfl (nI_succ j).symm h1 k
theorem z_ist2 {x : Int32} {a0 a1 a2 : Option Value} (hd : decode M.2.1 pc = .ok (.istore_n 2, 1)) (pc' : Nat) (he : pc + 1 = pc') (h1 : zn1 (a0 :: a1 :: a2 :: tl) 2 = true) (k : Z l D M mc ms Q hp cu su pc' (a0 :: a1 :: some (.int x) :: tl) rest) : Z l D M mc ms Q hp cu su pc (a0 :: a1 :: a2 :: tl) (.int x :: rest) :=
  z_istore_n (i := 2) hd pc' he rfl h1 (by simp) k
theorem z_ast2 {x : Nat} {a0 a1 a2 : Option Value} (hd : decode M.2.1 pc = .ok (.astore_n 2, 1)) (pc' : Nat) (he : pc + 1 = pc') (h1 : zn1 (a0 :: a1 :: a2 :: tl) 2 = true) (k : Z l D M mc ms Q hp cu su pc' (a0 :: a1 :: some (.ref x) :: tl) rest) : Z l D M mc ms Q hp cu su pc (a0 :: a1 :: a2 :: tl) (.ref x :: rest) :=
  z_astore_n (i := 2) hd pc' he rfl h1 (by simp) k
theorem z_astN2 {a0 a1 a2 : Option Value} (hd : decode M.2.1 pc = .ok (.astore_n 2, 1)) (pc' : Nat) (he : pc + 1 = pc') (h1 : zn1 (a0 :: a1 :: a2 :: tl) 2 = true) (k : Z l D M mc ms Q hp cu su pc' (a0 :: a1 :: some (.null) :: tl) rest) : Z l D M mc ms Q hp cu su pc (a0 :: a1 :: a2 :: tl) (.null :: rest) :=
  z_astore_nN (i := 2) hd pc' he rfl h1 (by simp) k
theorem z_astq2 {x : Option Nat} {a0 a1 a2 : Option Value} (hd : decode M.2.1 pc = .ok (.astore_n 2, 1)) (pc' : Nat) (he : pc + 1 = pc') (h1 : zn1 (a0 :: a1 :: a2 :: tl) 2 = true) (k : Z l D M mc ms Q hp cu su pc' (a0 :: a1 :: some (va_rf x) :: tl) rest) : Z l D M mc ms Q hp cu su pc (a0 :: a1 :: a2 :: tl) (va_rf x :: rest) :=
  z_astore_nq (i := 2) hd pc' he rfl h1 (by simp) k
theorem z_lst2 {x : Int64} {a0 a1 a2 a3 : Option Value} (hd : decode M.2.1 pc = .ok (.lstore_n 2, 1)) (pc' : Nat) (he : pc + 1 = pc') (h1 : zn1 (a0 :: a1 :: a2 :: a3 :: tl) 2 = true) (k : Z l D M mc ms Q hp cu su pc' (a0 :: a1 :: some (.long x) :: none :: tl) rest) : Z l D M mc ms Q hp cu su pc (a0 :: a1 :: a2 :: a3 :: tl) (.long x :: rest) :=
  z_lstore_n (i := 2) hd pc' he rfl h1 (by simp) k
theorem z_inc2 {n : Int} {x v : Int32} {a0 a1 : Option Value} (hd : decode M.2.1 pc = .ok (.iinc 2 n, 3)) (pc' : Nat) (he : pc + 3 = pc') (hv : x + Int32.ofInt n = v) (h1 : zn1 (a0 :: a1 :: some (.int x) :: tl) 2 = true) (k : Z l D M mc ms Q hp cu su pc' (a0 :: a1 :: some (.int v) :: tl) rest) : Z l D M mc ms Q hp cu su pc (a0 :: a1 :: some (.int x) :: tl) rest :=
  z_iinc (i := 2) hd pc' he rfl hv h1 k
theorem z_incN2 {j : Nat} {a0 a1 : Option Value} (hd : decode M.2.1 pc = .ok (.iinc 2 1, 3)) (pc' : Nat) (he : pc + 3 = pc') (h1 : zn1 (a0 :: a1 :: some (.int (nI j)) :: tl) 2 = true) (k : Z l D M mc ms Q hp cu su pc' (a0 :: a1 :: some (.int (nI (j + 1))) :: tl) rest) : Z l D M mc ms Q hp cu su pc (a0 :: a1 :: some (.int (nI j)) :: tl) rest :=
  z_iinc (i := 2) hd pc' he rfl (nI_succ j).symm h1 k
theorem z_ist3 {x : Int32} {a0 a1 a2 a3 : Option Value} (hd : decode M.2.1 pc = .ok (.istore_n 3, 1)) (pc' : Nat) (he : pc + 1 = pc') (h1 : zn1 (a0 :: a1 :: a2 :: a3 :: tl) 3 = true) (k : Z l D M mc ms Q hp cu su pc' (a0 :: a1 :: a2 :: some (.int x) :: tl) rest) : Z l D M mc ms Q hp cu su pc (a0 :: a1 :: a2 :: a3 :: tl) (.int x :: rest) :=
  z_istore_n (i := 3) hd pc' he rfl h1 (by simp) k
theorem z_ast3 {x : Nat} {a0 a1 a2 a3 : Option Value} (hd : decode M.2.1 pc = .ok (.astore_n 3, 1)) (pc' : Nat) (he : pc + 1 = pc') (h1 : zn1 (a0 :: a1 :: a2 :: a3 :: tl) 3 = true) (k : Z l D M mc ms Q hp cu su pc' (a0 :: a1 :: a2 :: some (.ref x) :: tl) rest) : Z l D M mc ms Q hp cu su pc (a0 :: a1 :: a2 :: a3 :: tl) (.ref x :: rest) :=
  z_astore_n (i := 3) hd pc' he rfl h1 (by simp) k
theorem z_astN3 {a0 a1 a2 a3 : Option Value} (hd : decode M.2.1 pc = .ok (.astore_n 3, 1)) (pc' : Nat) (he : pc + 1 = pc') (h1 : zn1 (a0 :: a1 :: a2 :: a3 :: tl) 3 = true) (k : Z l D M mc ms Q hp cu su pc' (a0 :: a1 :: a2 :: some (.null) :: tl) rest) : Z l D M mc ms Q hp cu su pc (a0 :: a1 :: a2 :: a3 :: tl) (.null :: rest) :=
  z_astore_nN (i := 3) hd pc' he rfl h1 (by simp) k
theorem z_astq3 {x : Option Nat} {a0 a1 a2 a3 : Option Value} (hd : decode M.2.1 pc = .ok (.astore_n 3, 1)) (pc' : Nat) (he : pc + 1 = pc') (h1 : zn1 (a0 :: a1 :: a2 :: a3 :: tl) 3 = true) (k : Z l D M mc ms Q hp cu su pc' (a0 :: a1 :: a2 :: some (va_rf x) :: tl) rest) : Z l D M mc ms Q hp cu su pc (a0 :: a1 :: a2 :: a3 :: tl) (va_rf x :: rest) :=
  z_astore_nq (i := 3) hd pc' he rfl h1 (by simp) k
theorem z_lst3 {x : Int64} {a0 a1 a2 a3 a4 : Option Value} (hd : decode M.2.1 pc = .ok (.lstore_n 3, 1)) (pc' : Nat) (he : pc + 1 = pc') (h1 : zn1 (a0 :: a1 :: a2 :: a3 :: a4 :: tl) 3 = true) (k : Z l D M mc ms Q hp cu su pc' (a0 :: a1 :: a2 :: some (.long x) :: none :: tl) rest) : Z l D M mc ms Q hp cu su pc (a0 :: a1 :: a2 :: a3 :: a4 :: tl) (.long x :: rest) :=
  z_lstore_n (i := 3) hd pc' he rfl h1 (by simp) k
theorem z_inc3 {n : Int} {x v : Int32} {a0 a1 a2 : Option Value} (hd : decode M.2.1 pc = .ok (.iinc 3 n, 3)) (pc' : Nat) (he : pc + 3 = pc') (hv : x + Int32.ofInt n = v) (h1 : zn1 (a0 :: a1 :: a2 :: some (.int x) :: tl) 3 = true) (k : Z l D M mc ms Q hp cu su pc' (a0 :: a1 :: a2 :: some (.int v) :: tl) rest) : Z l D M mc ms Q hp cu su pc (a0 :: a1 :: a2 :: some (.int x) :: tl) rest :=
  z_iinc (i := 3) hd pc' he rfl hv h1 k
theorem z_incN3 {j : Nat} {a0 a1 a2 : Option Value} (hd : decode M.2.1 pc = .ok (.iinc 3 1, 3)) (pc' : Nat) (he : pc + 3 = pc') (h1 : zn1 (a0 :: a1 :: a2 :: some (.int (nI j)) :: tl) 3 = true) (k : Z l D M mc ms Q hp cu su pc' (a0 :: a1 :: a2 :: some (.int (nI (j + 1))) :: tl) rest) : Z l D M mc ms Q hp cu su pc (a0 :: a1 :: a2 :: some (.int (nI j)) :: tl) rest :=
  z_iinc (i := 3) hd pc' he rfl (nI_succ j).symm h1 k
theorem z_ist4 {x : Int32} {a0 a1 a2 a3 a4 : Option Value} (hd : decode M.2.1 pc = .ok (.istore 4, 2)) (pc' : Nat) (he : pc + 2 = pc') (h1 : zn1 (a0 :: a1 :: a2 :: a3 :: a4 :: tl) 4 = true) (k : Z l D M mc ms Q hp cu su pc' (a0 :: a1 :: a2 :: a3 :: some (.int x) :: tl) rest) : Z l D M mc ms Q hp cu su pc (a0 :: a1 :: a2 :: a3 :: a4 :: tl) (.int x :: rest) :=
  z_istore (i := 4) hd pc' he h1 (by simp) k
theorem z_ast4 {x : Nat} {a0 a1 a2 a3 a4 : Option Value} (hd : decode M.2.1 pc = .ok (.astore 4, 2)) (pc' : Nat) (he : pc + 2 = pc') (h1 : zn1 (a0 :: a1 :: a2 :: a3 :: a4 :: tl) 4 = true) (k : Z l D M mc ms Q hp cu su pc' (a0 :: a1 :: a2 :: a3 :: some (.ref x) :: tl) rest) : Z l D M mc ms Q hp cu su pc (a0 :: a1 :: a2 :: a3 :: a4 :: tl) (.ref x :: rest) :=
  z_astore (i := 4) hd pc' he h1 (by simp) k
theorem z_astN4 {a0 a1 a2 a3 a4 : Option Value} (hd : decode M.2.1 pc = .ok (.astore 4, 2)) (pc' : Nat) (he : pc + 2 = pc') (h1 : zn1 (a0 :: a1 :: a2 :: a3 :: a4 :: tl) 4 = true) (k : Z l D M mc ms Q hp cu su pc' (a0 :: a1 :: a2 :: a3 :: some (.null) :: tl) rest) : Z l D M mc ms Q hp cu su pc (a0 :: a1 :: a2 :: a3 :: a4 :: tl) (.null :: rest) :=
  z_astoreN (i := 4) hd pc' he h1 (by simp) k
theorem z_astq4 {x : Option Nat} {a0 a1 a2 a3 a4 : Option Value} (hd : decode M.2.1 pc = .ok (.astore 4, 2)) (pc' : Nat) (he : pc + 2 = pc') (h1 : zn1 (a0 :: a1 :: a2 :: a3 :: a4 :: tl) 4 = true) (k : Z l D M mc ms Q hp cu su pc' (a0 :: a1 :: a2 :: a3 :: some (va_rf x) :: tl) rest) : Z l D M mc ms Q hp cu su pc (a0 :: a1 :: a2 :: a3 :: a4 :: tl) (va_rf x :: rest) :=
  z_astoreq (i := 4) hd pc' he h1 (by simp) k
theorem z_lst4 {x : Int64} {a0 a1 a2 a3 a4 a5 : Option Value} (hd : decode M.2.1 pc = .ok (.lstore 4, 2)) (pc' : Nat) (he : pc + 2 = pc') (h1 : zn1 (a0 :: a1 :: a2 :: a3 :: a4 :: a5 :: tl) 4 = true) (k : Z l D M mc ms Q hp cu su pc' (a0 :: a1 :: a2 :: a3 :: some (.long x) :: none :: tl) rest) : Z l D M mc ms Q hp cu su pc (a0 :: a1 :: a2 :: a3 :: a4 :: a5 :: tl) (.long x :: rest) :=
  z_lstore (i := 4) hd pc' he h1 (by simp) k
theorem z_inc4 {n : Int} {x v : Int32} {a0 a1 a2 a3 : Option Value} (hd : decode M.2.1 pc = .ok (.iinc 4 n, 3)) (pc' : Nat) (he : pc + 3 = pc') (hv : x + Int32.ofInt n = v) (h1 : zn1 (a0 :: a1 :: a2 :: a3 :: some (.int x) :: tl) 4 = true) (k : Z l D M mc ms Q hp cu su pc' (a0 :: a1 :: a2 :: a3 :: some (.int v) :: tl) rest) : Z l D M mc ms Q hp cu su pc (a0 :: a1 :: a2 :: a3 :: some (.int x) :: tl) rest :=
  z_iinc (i := 4) hd pc' he rfl hv h1 k
theorem z_incN4 {j : Nat} {a0 a1 a2 a3 : Option Value} (hd : decode M.2.1 pc = .ok (.iinc 4 1, 3)) (pc' : Nat) (he : pc + 3 = pc') (h1 : zn1 (a0 :: a1 :: a2 :: a3 :: some (.int (nI j)) :: tl) 4 = true) (k : Z l D M mc ms Q hp cu su pc' (a0 :: a1 :: a2 :: a3 :: some (.int (nI (j + 1))) :: tl) rest) : Z l D M mc ms Q hp cu su pc (a0 :: a1 :: a2 :: a3 :: some (.int (nI j)) :: tl) rest :=
  z_iinc (i := 4) hd pc' he rfl (nI_succ j).symm h1 k
theorem z_ist5 {x : Int32} {a0 a1 a2 a3 a4 a5 : Option Value} (hd : decode M.2.1 pc = .ok (.istore 5, 2)) (pc' : Nat) (he : pc + 2 = pc') (h1 : zn1 (a0 :: a1 :: a2 :: a3 :: a4 :: a5 :: tl) 5 = true) (k : Z l D M mc ms Q hp cu su pc' (a0 :: a1 :: a2 :: a3 :: a4 :: some (.int x) :: tl) rest) : Z l D M mc ms Q hp cu su pc (a0 :: a1 :: a2 :: a3 :: a4 :: a5 :: tl) (.int x :: rest) :=
  z_istore (i := 5) hd pc' he h1 (by simp) k
theorem z_ast5 {x : Nat} {a0 a1 a2 a3 a4 a5 : Option Value} (hd : decode M.2.1 pc = .ok (.astore 5, 2)) (pc' : Nat) (he : pc + 2 = pc') (h1 : zn1 (a0 :: a1 :: a2 :: a3 :: a4 :: a5 :: tl) 5 = true) (k : Z l D M mc ms Q hp cu su pc' (a0 :: a1 :: a2 :: a3 :: a4 :: some (.ref x) :: tl) rest) : Z l D M mc ms Q hp cu su pc (a0 :: a1 :: a2 :: a3 :: a4 :: a5 :: tl) (.ref x :: rest) :=
  z_astore (i := 5) hd pc' he h1 (by simp) k
theorem z_astN5 {a0 a1 a2 a3 a4 a5 : Option Value} (hd : decode M.2.1 pc = .ok (.astore 5, 2)) (pc' : Nat) (he : pc + 2 = pc') (h1 : zn1 (a0 :: a1 :: a2 :: a3 :: a4 :: a5 :: tl) 5 = true) (k : Z l D M mc ms Q hp cu su pc' (a0 :: a1 :: a2 :: a3 :: a4 :: some (.null) :: tl) rest) : Z l D M mc ms Q hp cu su pc (a0 :: a1 :: a2 :: a3 :: a4 :: a5 :: tl) (.null :: rest) :=
  z_astoreN (i := 5) hd pc' he h1 (by simp) k
theorem z_astq5 {x : Option Nat} {a0 a1 a2 a3 a4 a5 : Option Value} (hd : decode M.2.1 pc = .ok (.astore 5, 2)) (pc' : Nat) (he : pc + 2 = pc') (h1 : zn1 (a0 :: a1 :: a2 :: a3 :: a4 :: a5 :: tl) 5 = true) (k : Z l D M mc ms Q hp cu su pc' (a0 :: a1 :: a2 :: a3 :: a4 :: some (va_rf x) :: tl) rest) : Z l D M mc ms Q hp cu su pc (a0 :: a1 :: a2 :: a3 :: a4 :: a5 :: tl) (va_rf x :: rest) :=
  z_astoreq (i := 5) hd pc' he h1 (by simp) k
theorem z_lst5 {x : Int64} {a0 a1 a2 a3 a4 a5 a6 : Option Value} (hd : decode M.2.1 pc = .ok (.lstore 5, 2)) (pc' : Nat) (he : pc + 2 = pc') (h1 : zn1 (a0 :: a1 :: a2 :: a3 :: a4 :: a5 :: a6 :: tl) 5 = true) (k : Z l D M mc ms Q hp cu su pc' (a0 :: a1 :: a2 :: a3 :: a4 :: some (.long x) :: none :: tl) rest) : Z l D M mc ms Q hp cu su pc (a0 :: a1 :: a2 :: a3 :: a4 :: a5 :: a6 :: tl) (.long x :: rest) :=
  z_lstore (i := 5) hd pc' he h1 (by simp) k
theorem z_inc5 {n : Int} {x v : Int32} {a0 a1 a2 a3 a4 : Option Value} (hd : decode M.2.1 pc = .ok (.iinc 5 n, 3)) (pc' : Nat) (he : pc + 3 = pc') (hv : x + Int32.ofInt n = v) (h1 : zn1 (a0 :: a1 :: a2 :: a3 :: a4 :: some (.int x) :: tl) 5 = true) (k : Z l D M mc ms Q hp cu su pc' (a0 :: a1 :: a2 :: a3 :: a4 :: some (.int v) :: tl) rest) : Z l D M mc ms Q hp cu su pc (a0 :: a1 :: a2 :: a3 :: a4 :: some (.int x) :: tl) rest :=
  z_iinc (i := 5) hd pc' he rfl hv h1 k
theorem z_incN5 {j : Nat} {a0 a1 a2 a3 a4 : Option Value} (hd : decode M.2.1 pc = .ok (.iinc 5 1, 3)) (pc' : Nat) (he : pc + 3 = pc') (h1 : zn1 (a0 :: a1 :: a2 :: a3 :: a4 :: some (.int (nI j)) :: tl) 5 = true) (k : Z l D M mc ms Q hp cu su pc' (a0 :: a1 :: a2 :: a3 :: a4 :: some (.int (nI (j + 1))) :: tl) rest) : Z l D M mc ms Q hp cu su pc (a0 :: a1 :: a2 :: a3 :: a4 :: some (.int (nI j)) :: tl) rest :=
  z_iinc (i := 5) hd pc' he rfl (nI_succ j).symm h1 k
theorem z_ist6 {x : Int32} {a0 a1 a2 a3 a4 a5 a6 : Option Value} (hd : decode M.2.1 pc = .ok (.istore 6, 2)) (pc' : Nat) (he : pc + 2 = pc') (h1 : zn1 (a0 :: a1 :: a2 :: a3 :: a4 :: a5 :: a6 :: tl) 6 = true) (k : Z l D M mc ms Q hp cu su pc' (a0 :: a1 :: a2 :: a3 :: a4 :: a5 :: some (.int x) :: tl) rest) : Z l D M mc ms Q hp cu su pc (a0 :: a1 :: a2 :: a3 :: a4 :: a5 :: a6 :: tl) (.int x :: rest) :=
  z_istore (i := 6) hd pc' he h1 (by simp) k
theorem z_ast6 {x : Nat} {a0 a1 a2 a3 a4 a5 a6 : Option Value} (hd : decode M.2.1 pc = .ok (.astore 6, 2)) (pc' : Nat) (he : pc + 2 = pc') (h1 : zn1 (a0 :: a1 :: a2 :: a3 :: a4 :: a5 :: a6 :: tl) 6 = true) (k : Z l D M mc ms Q hp cu su pc' (a0 :: a1 :: a2 :: a3 :: a4 :: a5 :: some (.ref x) :: tl) rest) : Z l D M mc ms Q hp cu su pc (a0 :: a1 :: a2 :: a3 :: a4 :: a5 :: a6 :: tl) (.ref x :: rest) :=
  z_astore (i := 6) hd pc' he h1 (by simp) k
theorem z_astN6 {a0 a1 a2 a3 a4 a5 a6 : Option Value} (hd : decode M.2.1 pc = .ok (.astore 6, 2)) (pc' : Nat) (he : pc + 2 = pc') (h1 : zn1 (a0 :: a1 :: a2 :: a3 :: a4 :: a5 :: a6 :: tl) 6 = true) (k : Z l D M mc ms Q hp cu su pc' (a0 :: a1 :: a2 :: a3 :: a4 :: a5 :: some (.null) :: tl) rest) : Z l D M mc ms Q hp cu su pc (a0 :: a1 :: a2 :: a3 :: a4 :: a5 :: a6 :: tl) (.null :: rest) :=
  z_astoreN (i := 6) hd pc' he h1 (by simp) k
theorem z_astq6 {x : Option Nat} {a0 a1 a2 a3 a4 a5 a6 : Option Value} (hd : decode M.2.1 pc = .ok (.astore 6, 2)) (pc' : Nat) (he : pc + 2 = pc') (h1 : zn1 (a0 :: a1 :: a2 :: a3 :: a4 :: a5 :: a6 :: tl) 6 = true) (k : Z l D M mc ms Q hp cu su pc' (a0 :: a1 :: a2 :: a3 :: a4 :: a5 :: some (va_rf x) :: tl) rest) : Z l D M mc ms Q hp cu su pc (a0 :: a1 :: a2 :: a3 :: a4 :: a5 :: a6 :: tl) (va_rf x :: rest) :=
  z_astoreq (i := 6) hd pc' he h1 (by simp) k
theorem z_lst6 {x : Int64} {a0 a1 a2 a3 a4 a5 a6 a7 : Option Value} (hd : decode M.2.1 pc = .ok (.lstore 6, 2)) (pc' : Nat) (he : pc + 2 = pc') (h1 : zn1 (a0 :: a1 :: a2 :: a3 :: a4 :: a5 :: a6 :: a7 :: tl) 6 = true) (k : Z l D M mc ms Q hp cu su pc' (a0 :: a1 :: a2 :: a3 :: a4 :: a5 :: some (.long x) :: none :: tl) rest) : Z l D M mc ms Q hp cu su pc (a0 :: a1 :: a2 :: a3 :: a4 :: a5 :: a6 :: a7 :: tl) (.long x :: rest) :=
  z_lstore (i := 6) hd pc' he h1 (by simp) k
theorem z_inc6 {n : Int} {x v : Int32} {a0 a1 a2 a3 a4 a5 : Option Value} (hd : decode M.2.1 pc = .ok (.iinc 6 n, 3)) (pc' : Nat) (he : pc + 3 = pc') (hv : x + Int32.ofInt n = v) (h1 : zn1 (a0 :: a1 :: a2 :: a3 :: a4 :: a5 :: some (.int x) :: tl) 6 = true) (k : Z l D M mc ms Q hp cu su pc' (a0 :: a1 :: a2 :: a3 :: a4 :: a5 :: some (.int v) :: tl) rest) : Z l D M mc ms Q hp cu su pc (a0 :: a1 :: a2 :: a3 :: a4 :: a5 :: some (.int x) :: tl) rest :=
  z_iinc (i := 6) hd pc' he rfl hv h1 k
theorem z_incN6 {j : Nat} {a0 a1 a2 a3 a4 a5 : Option Value} (hd : decode M.2.1 pc = .ok (.iinc 6 1, 3)) (pc' : Nat) (he : pc + 3 = pc') (h1 : zn1 (a0 :: a1 :: a2 :: a3 :: a4 :: a5 :: some (.int (nI j)) :: tl) 6 = true) (k : Z l D M mc ms Q hp cu su pc' (a0 :: a1 :: a2 :: a3 :: a4 :: a5 :: some (.int (nI (j + 1))) :: tl) rest) : Z l D M mc ms Q hp cu su pc (a0 :: a1 :: a2 :: a3 :: a4 :: a5 :: some (.int (nI j)) :: tl) rest :=
  z_iinc (i := 6) hd pc' he rfl (nI_succ j).symm h1 k
theorem z_ist7 {x : Int32} {a0 a1 a2 a3 a4 a5 a6 a7 : Option Value} (hd : decode M.2.1 pc = .ok (.istore 7, 2)) (pc' : Nat) (he : pc + 2 = pc') (h1 : zn1 (a0 :: a1 :: a2 :: a3 :: a4 :: a5 :: a6 :: a7 :: tl) 7 = true) (k : Z l D M mc ms Q hp cu su pc' (a0 :: a1 :: a2 :: a3 :: a4 :: a5 :: a6 :: some (.int x) :: tl) rest) : Z l D M mc ms Q hp cu su pc (a0 :: a1 :: a2 :: a3 :: a4 :: a5 :: a6 :: a7 :: tl) (.int x :: rest) :=
  z_istore (i := 7) hd pc' he h1 (by simp) k
theorem z_ast7 {x : Nat} {a0 a1 a2 a3 a4 a5 a6 a7 : Option Value} (hd : decode M.2.1 pc = .ok (.astore 7, 2)) (pc' : Nat) (he : pc + 2 = pc') (h1 : zn1 (a0 :: a1 :: a2 :: a3 :: a4 :: a5 :: a6 :: a7 :: tl) 7 = true) (k : Z l D M mc ms Q hp cu su pc' (a0 :: a1 :: a2 :: a3 :: a4 :: a5 :: a6 :: some (.ref x) :: tl) rest) : Z l D M mc ms Q hp cu su pc (a0 :: a1 :: a2 :: a3 :: a4 :: a5 :: a6 :: a7 :: tl) (.ref x :: rest) :=
  z_astore (i := 7) hd pc' he h1 (by simp) k
theorem z_astN7 {a0 a1 a2 a3 a4 a5 a6 a7 : Option Value} (hd : decode M.2.1 pc = .ok (.astore 7, 2)) (pc' : Nat) (he : pc + 2 = pc') (h1 : zn1 (a0 :: a1 :: a2 :: a3 :: a4 :: a5 :: a6 :: a7 :: tl) 7 = true) (k : Z l D M mc ms Q hp cu su pc' (a0 :: a1 :: a2 :: a3 :: a4 :: a5 :: a6 :: some (.null) :: tl) rest) : Z l D M mc ms Q hp cu su pc (a0 :: a1 :: a2 :: a3 :: a4 :: a5 :: a6 :: a7 :: tl) (.null :: rest) :=
  z_astoreN (i := 7) hd pc' he h1 (by simp) k
theorem z_astq7 {x : Option Nat} {a0 a1 a2 a3 a4 a5 a6 a7 : Option Value} (hd : decode M.2.1 pc = .ok (.astore 7, 2)) (pc' : Nat) (he : pc + 2 = pc') (h1 : zn1 (a0 :: a1 :: a2 :: a3 :: a4 :: a5 :: a6 :: a7 :: tl) 7 = true) (k : Z l D M mc ms Q hp cu su pc' (a0 :: a1 :: a2 :: a3 :: a4 :: a5 :: a6 :: some (va_rf x) :: tl) rest) : Z l D M mc ms Q hp cu su pc (a0 :: a1 :: a2 :: a3 :: a4 :: a5 :: a6 :: a7 :: tl) (va_rf x :: rest) :=
  z_astoreq (i := 7) hd pc' he h1 (by simp) k
theorem z_lst7 {x : Int64} {a0 a1 a2 a3 a4 a5 a6 a7 a8 : Option Value} (hd : decode M.2.1 pc = .ok (.lstore 7, 2)) (pc' : Nat) (he : pc + 2 = pc') (h1 : zn1 (a0 :: a1 :: a2 :: a3 :: a4 :: a5 :: a6 :: a7 :: a8 :: tl) 7 = true) (k : Z l D M mc ms Q hp cu su pc' (a0 :: a1 :: a2 :: a3 :: a4 :: a5 :: a6 :: some (.long x) :: none :: tl) rest) : Z l D M mc ms Q hp cu su pc (a0 :: a1 :: a2 :: a3 :: a4 :: a5 :: a6 :: a7 :: a8 :: tl) (.long x :: rest) :=
  z_lstore (i := 7) hd pc' he h1 (by simp) k
theorem z_inc7 {n : Int} {x v : Int32} {a0 a1 a2 a3 a4 a5 a6 : Option Value} (hd : decode M.2.1 pc = .ok (.iinc 7 n, 3)) (pc' : Nat) (he : pc + 3 = pc') (hv : x + Int32.ofInt n = v) (h1 : zn1 (a0 :: a1 :: a2 :: a3 :: a4 :: a5 :: a6 :: some (.int x) :: tl) 7 = true) (k : Z l D M mc ms Q hp cu su pc' (a0 :: a1 :: a2 :: a3 :: a4 :: a5 :: a6 :: some (.int v) :: tl) rest) : Z l D M mc ms Q hp cu su pc (a0 :: a1 :: a2 :: a3 :: a4 :: a5 :: a6 :: some (.int x) :: tl) rest :=
  z_iinc (i := 7) hd pc' he rfl hv h1 k
theorem z_incN7 {j : Nat} {a0 a1 a2 a3 a4 a5 a6 : Option Value} (hd : decode M.2.1 pc = .ok (.iinc 7 1, 3)) (pc' : Nat) (he : pc + 3 = pc') (h1 : zn1 (a0 :: a1 :: a2 :: a3 :: a4 :: a5 :: a6 :: some (.int (nI j)) :: tl) 7 = true) (k : Z l D M mc ms Q hp cu su pc' (a0 :: a1 :: a2 :: a3 :: a4 :: a5 :: a6 :: some (.int (nI (j + 1))) :: tl) rest) : Z l D M mc ms Q hp cu su pc (a0 :: a1 :: a2 :: a3 :: a4 :: a5 :: a6 :: some (.int (nI j)) :: tl) rest :=
  z_iinc (i := 7) hd pc' he rfl (nI_succ j).symm h1 k
theorem z_ist8 {x : Int32} {a0 a1 a2 a3 a4 a5 a6 a7 a8 : Option Value} (hd : decode M.2.1 pc = .ok (.istore 8, 2)) (pc' : Nat) (he : pc + 2 = pc') (h1 : zn1 (a0 :: a1 :: a2 :: a3 :: a4 :: a5 :: a6 :: a7 :: a8 :: tl) 8 = true) (k : Z l D M mc ms Q hp cu su pc' (a0 :: a1 :: a2 :: a3 :: a4 :: a5 :: a6 :: a7 :: some (.int x) :: tl) rest) : Z l D M mc ms Q hp cu su pc (a0 :: a1 :: a2 :: a3 :: a4 :: a5 :: a6 :: a7 :: a8 :: tl) (.int x :: rest) :=
  z_istore (i := 8) hd pc' he h1 (by simp) k
theorem z_ast8 {x : Nat} {a0 a1 a2 a3 a4 a5 a6 a7 a8 : Option Value} (hd : decode M.2.1 pc = .ok (.astore 8, 2)) (pc' : Nat) (he : pc + 2 = pc') (h1 : zn1 (a0 :: a1 :: a2 :: a3 :: a4 :: a5 :: a6 :: a7 :: a8 :: tl) 8 = true) (k : Z l D M mc ms Q hp cu su pc' (a0 :: a1 :: a2 :: a3 :: a4 :: a5 :: a6 :: a7 :: some (.ref x) :: tl) rest) : Z l D M mc ms Q hp cu su pc (a0 :: a1 :: a2 :: a3 :: a4 :: a5 :: a6 :: a7 :: a8 :: tl) (.ref x :: rest) :=
  z_astore (i := 8) hd pc' he h1 (by simp) k
theorem z_astN8 {a0 a1 a2 a3 a4 a5 a6 a7 a8 : Option Value} (hd : decode M.2.1 pc = .ok (.astore 8, 2)) (pc' : Nat) (he : pc + 2 = pc') (h1 : zn1 (a0 :: a1 :: a2 :: a3 :: a4 :: a5 :: a6 :: a7 :: a8 :: tl) 8 = true) (k : Z l D M mc ms Q hp cu su pc' (a0 :: a1 :: a2 :: a3 :: a4 :: a5 :: a6 :: a7 :: some (.null) :: tl) rest) : Z l D M mc ms Q hp cu su pc (a0 :: a1 :: a2 :: a3 :: a4 :: a5 :: a6 :: a7 :: a8 :: tl) (.null :: rest) :=
  z_astoreN (i := 8) hd pc' he h1 (by simp) k
theorem z_astq8 {x : Option Nat} {a0 a1 a2 a3 a4 a5 a6 a7 a8 : Option Value} (hd : decode M.2.1 pc = .ok (.astore 8, 2)) (pc' : Nat) (he : pc + 2 = pc') (h1 : zn1 (a0 :: a1 :: a2 :: a3 :: a4 :: a5 :: a6 :: a7 :: a8 :: tl) 8 = true) (k : Z l D M mc ms Q hp cu su pc' (a0 :: a1 :: a2 :: a3 :: a4 :: a5 :: a6 :: a7 :: some (va_rf x) :: tl) rest) : Z l D M mc ms Q hp cu su pc (a0 :: a1 :: a2 :: a3 :: a4 :: a5 :: a6 :: a7 :: a8 :: tl) (va_rf x :: rest) :=
  z_astoreq (i := 8) hd pc' he h1 (by simp) k
theorem z_lst8 {x : Int64} {a0 a1 a2 a3 a4 a5 a6 a7 a8 a9 : Option Value} (hd : decode M.2.1 pc = .ok (.lstore 8, 2)) (pc' : Nat) (he : pc + 2 = pc') (h1 : zn1 (a0 :: a1 :: a2 :: a3 :: a4 :: a5 :: a6 :: a7 :: a8 :: a9 :: tl) 8 = true) (k : Z l D M mc ms Q hp cu su pc' (a0 :: a1 :: a2 :: a3 :: a4 :: a5 :: a6 :: a7 :: some (.long x) :: none :: tl) rest) : Z l D M mc ms Q hp cu su pc (a0 :: a1 :: a2 :: a3 :: a4 :: a5 :: a6 :: a7 :: a8 :: a9 :: tl) (.long x :: rest) :=
  z_lstore (i := 8) hd pc' he h1 (by simp) k
theorem z_inc8 {n : Int} {x v : Int32} {a0 a1 a2 a3 a4 a5 a6 a7 : Option Value} (hd : decode M.2.1 pc = .ok (.iinc 8 n, 3)) (pc' : Nat) (he : pc + 3 = pc') (hv : x + Int32.ofInt n = v) (h1 : zn1 (a0 :: a1 :: a2 :: a3 :: a4 :: a5 :: a6 :: a7 :: some (.int x) :: tl) 8 = true) (k : Z l D M mc ms Q hp cu su pc' (a0 :: a1 :: a2 :: a3 :: a4 :: a5 :: a6 :: a7 :: some (.int v) :: tl) rest) : Z l D M mc ms Q hp cu su pc (a0 :: a1 :: a2 :: a3 :: a4 :: a5 :: a6 :: a7 :: some (.int x) :: tl) rest :=
  z_iinc (i := 8) hd pc' he rfl hv h1 k
theorem z_incN8 {j : Nat} {a0 a1 a2 a3 a4 a5 a6 a7 : Option Value} (hd : decode M.2.1 pc = .ok (.iinc 8 1, 3)) (pc' : Nat) (he : pc + 3 = pc') (h1 : zn1 (a0 :: a1 :: a2 :: a3 :: a4 :: a5 :: a6 :: a7 :: some (.int (nI j)) :: tl) 8 = true) (k : Z l D M mc ms Q hp cu su pc' (a0 :: a1 :: a2 :: a3 :: a4 :: a5 :: a6 :: a7 :: some (.int (nI (j + 1))) :: tl) rest) : Z l D M mc ms Q hp cu su pc (a0 :: a1 :: a2 :: a3 :: a4 :: a5 :: a6 :: a7 :: some (.int (nI j)) :: tl) rest :=
  z_iinc (i := 8) hd pc' he rfl (nI_succ j).symm h1 k
theorem z_ist9 {x : Int32} {a0 a1 a2 a3 a4 a5 a6 a7 a8 a9 : Option Value} (hd : decode M.2.1 pc = .ok (.istore 9, 2)) (pc' : Nat) (he : pc + 2 = pc') (h1 : zn1 (a0 :: a1 :: a2 :: a3 :: a4 :: a5 :: a6 :: a7 :: a8 :: a9 :: tl) 9 = true) (k : Z l D M mc ms Q hp cu su pc' (a0 :: a1 :: a2 :: a3 :: a4 :: a5 :: a6 :: a7 :: a8 :: some (.int x) :: tl) rest) : Z l D M mc ms Q hp cu su pc (a0 :: a1 :: a2 :: a3 :: a4 :: a5 :: a6 :: a7 :: a8 :: a9 :: tl) (.int x :: rest) :=
  z_istore (i := 9) hd pc' he h1 (by simp) k
theorem z_ast9 {x : Nat} {a0 a1 a2 a3 a4 a5 a6 a7 a8 a9 : Option Value} (hd : decode M.2.1 pc = .ok (.astore 9, 2)) (pc' : Nat) (he : pc + 2 = pc') (h1 : zn1 (a0 :: a1 :: a2 :: a3 :: a4 :: a5 :: a6 :: a7 :: a8 :: a9 :: tl) 9 = true) (k : Z l D M mc ms Q hp cu su pc' (a0 :: a1 :: a2 :: a3 :: a4 :: a5 :: a6 :: a7 :: a8 :: some (.ref x) :: tl) rest) : Z l D M mc ms Q hp cu su pc (a0 :: a1 :: a2 :: a3 :: a4 :: a5 :: a6 :: a7 :: a8 :: a9 :: tl) (.ref x :: rest) :=
  z_astore (i := 9) hd pc' he h1 (by simp) k
theorem z_astN9 {a0 a1 a2 a3 a4 a5 a6 a7 a8 a9 : Option Value} (hd : decode M.2.1 pc = .ok (.astore 9, 2)) (pc' : Nat) (he : pc + 2 = pc') (h1 : zn1 (a0 :: a1 :: a2 :: a3 :: a4 :: a5 :: a6 :: a7 :: a8 :: a9 :: tl) 9 = true) (k : Z l D M mc ms Q hp cu su pc' (a0 :: a1 :: a2 :: a3 :: a4 :: a5 :: a6 :: a7 :: a8 :: some (.null) :: tl) rest) : Z l D M mc ms Q hp cu su pc (a0 :: a1 :: a2 :: a3 :: a4 :: a5 :: a6 :: a7 :: a8 :: a9 :: tl) (.null :: rest) :=
  z_astoreN (i := 9) hd pc' he h1 (by simp) k
theorem z_astq9 {x : Option Nat} {a0 a1 a2 a3 a4 a5 a6 a7 a8 a9 : Option Value} (hd : decode M.2.1 pc = .ok (.astore 9, 2)) (pc' : Nat) (he : pc + 2 = pc') (h1 : zn1 (a0 :: a1 :: a2 :: a3 :: a4 :: a5 :: a6 :: a7 :: a8 :: a9 :: tl) 9 = true) (k : Z l D M mc ms Q hp cu su pc' (a0 :: a1 :: a2 :: a3 :: a4 :: a5 :: a6 :: a7 :: a8 :: some (va_rf x) :: tl) rest) : Z l D M mc ms Q hp cu su pc (a0 :: a1 :: a2 :: a3 :: a4 :: a5 :: a6 :: a7 :: a8 :: a9 :: tl) (va_rf x :: rest) :=
  z_astoreq (i := 9) hd pc' he h1 (by simp) k
theorem z_lst9 {x : Int64} {a0 a1 a2 a3 a4 a5 a6 a7 a8 a9 a10 : Option Value} (hd : decode M.2.1 pc = .ok (.lstore 9, 2)) (pc' : Nat) (he : pc + 2 = pc') (h1 : zn1 (a0 :: a1 :: a2 :: a3 :: a4 :: a5 :: a6 :: a7 :: a8 :: a9 :: a10 :: tl) 9 = true) (k : Z l D M mc ms Q hp cu su pc' (a0 :: a1 :: a2 :: a3 :: a4 :: a5 :: a6 :: a7 :: a8 :: some (.long x) :: none :: tl) rest) : Z l D M mc ms Q hp cu su pc (a0 :: a1 :: a2 :: a3 :: a4 :: a5 :: a6 :: a7 :: a8 :: a9 :: a10 :: tl) (.long x :: rest) :=
  z_lstore (i := 9) hd pc' he h1 (by simp) k
theorem z_inc9 {n : Int} {x v : Int32} {a0 a1 a2 a3 a4 a5 a6 a7 a8 : Option Value} (hd : decode M.2.1 pc = .ok (.iinc 9 n, 3)) (pc' : Nat) (he : pc + 3 = pc') (hv : x + Int32.ofInt n = v) (h1 : zn1 (a0 :: a1 :: a2 :: a3 :: a4 :: a5 :: a6 :: a7 :: a8 :: some (.int x) :: tl) 9 = true) (k : Z l D M mc ms Q hp cu su pc' (a0 :: a1 :: a2 :: a3 :: a4 :: a5 :: a6 :: a7 :: a8 :: some (.int v) :: tl) rest) : Z l D M mc ms Q hp cu su pc (a0 :: a1 :: a2 :: a3 :: a4 :: a5 :: a6 :: a7 :: a8 :: some (.int x) :: tl) rest :=
  z_iinc (i := 9) hd pc' he rfl hv h1 k
theorem z_incN9 {j : Nat} {a0 a1 a2 a3 a4 a5 a6 a7 a8 : Option Value} (hd : decode M.2.1 pc = .ok (.iinc 9 1, 3)) (pc' : Nat) (he : pc + 3 = pc') (h1 : zn1 (a0 :: a1 :: a2 :: a3 :: a4 :: a5 :: a6 :: a7 :: a8 :: some (.int (nI j)) :: tl) 9 = true) (k : Z l D M mc ms Q hp cu su pc' (a0 :: a1 :: a2 :: a3 :: a4 :: a5 :: a6 :: a7 :: a8 :: some (.int (nI (j + 1))) :: tl) rest) : Z l D M mc ms Q hp cu su pc (a0 :: a1 :: a2 :: a3 :: a4 :: a5 :: a6 :: a7 :: a8 :: some (.int (nI j)) :: tl) rest :=
  z_iinc (i := 9) hd pc' he rfl (nI_succ j).symm h1 k
theorem z_ist10 {x : Int32} {a0 a1 a2 a3 a4 a5 a6 a7 a8 a9 a10 : Option Value} (hd : decode M.2.1 pc = .ok (.istore 10, 2)) (pc' : Nat) (he : pc + 2 = pc') (h1 : zn1 (a0 :: a1 :: a2 :: a3 :: a4 :: a5 :: a6 :: a7 :: a8 :: a9 :: a10 :: tl) 10 = true) (k : Z l D M mc ms Q hp cu su pc' (a0 :: a1 :: a2 :: a3 :: a4 :: a5 :: a6 :: a7 :: a8 :: a9 :: some (.int x) :: tl) rest) : Z l D M mc ms Q hp cu su pc (a0 :: a1 :: a2 :: a3 :: a4 :: a5 :: a6 :: a7 :: a8 :: a9 :: a10 :: tl) (.int x :: rest) :=
  z_istore (i := 10) hd pc' he h1 (by simp) k
theorem z_ast10 {x : Nat} {a0 a1 a2 a3 a4 a5 a6 a7 a8 a9 a10 : Option Value} (hd : decode M.2.1 pc = .ok (.astore 10, 2)) (pc' : Nat) (he : pc + 2 = pc') (h1 : zn1 (a0 :: a1 :: a2 :: a3 :: a4 :: a5 :: a6 :: a7 :: a8 :: a9 :: a10 :: tl) 10 = true) (k : Z l D M mc ms Q hp cu su pc' (a0 :: a1 :: a2 :: a3 :: a4 :: a5 :: a6 :: a7 :: a8 :: a9 :: some (.ref x) :: tl) rest) : Z l D M mc ms Q hp cu su pc (a0 :: a1 :: a2 :: a3 :: a4 :: a5 :: a6 :: a7 :: a8 :: a9 :: a10 :: tl) (.ref x :: rest) :=
  z_astore (i := 10) hd pc' he h1 (by simp) k
theorem z_astN10 {a0 a1 a2 a3 a4 a5 a6 a7 a8 a9 a10 : Option Value} (hd : decode M.2.1 pc = .ok (.astore 10, 2)) (pc' : Nat) (he : pc + 2 = pc') (h1 : zn1 (a0 :: a1 :: a2 :: a3 :: a4 :: a5 :: a6 :: a7 :: a8 :: a9 :: a10 :: tl) 10 = true) (k : Z l D M mc ms Q hp cu su pc' (a0 :: a1 :: a2 :: a3 :: a4 :: a5 :: a6 :: a7 :: a8 :: a9 :: some (.null) :: tl) rest) : Z l D M mc ms Q hp cu su pc (a0 :: a1 :: a2 :: a3 :: a4 :: a5 :: a6 :: a7 :: a8 :: a9 :: a10 :: tl) (.null :: rest) :=
  z_astoreN (i := 10) hd pc' he h1 (by simp) k
theorem z_astq10 {x : Option Nat} {a0 a1 a2 a3 a4 a5 a6 a7 a8 a9 a10 : Option Value} (hd : decode M.2.1 pc = .ok (.astore 10, 2)) (pc' : Nat) (he : pc + 2 = pc') (h1 : zn1 (a0 :: a1 :: a2 :: a3 :: a4 :: a5 :: a6 :: a7 :: a8 :: a9 :: a10 :: tl) 10 = true) (k : Z l D M mc ms Q hp cu su pc' (a0 :: a1 :: a2 :: a3 :: a4 :: a5 :: a6 :: a7 :: a8 :: a9 :: some (va_rf x) :: tl) rest) : Z l D M mc ms Q hp cu su pc (a0 :: a1 :: a2 :: a3 :: a4 :: a5 :: a6 :: a7 :: a8 :: a9 :: a10 :: tl) (va_rf x :: rest) :=
  z_astoreq (i := 10) hd pc' he h1 (by simp) k
theorem z_lst10 {x : Int64} {a0 a1 a2 a3 a4 a5 a6 a7 a8 a9 a10 a11 : Option Value} (hd : decode M.2.1 pc = .ok (.lstore 10, 2)) (pc' : Nat) (he : pc + 2 = pc') (h1 : zn1 (a0 :: a1 :: a2 :: a3 :: a4 :: a5 :: a6 :: a7 :: a8 :: a9 :: a10 :: a11 :: tl) 10 = true) (k : Z l D M mc ms Q hp cu su pc' (a0 :: a1 :: a2 :: a3 :: a4 :: a5 :: a6 :: a7 :: a8 :: a9 :: some (.long x) :: none :: tl) rest) : Z l D M mc ms Q hp cu su pc (a0 :: a1 :: a2 :: a3 :: a4 :: a5 :: a6 :: a7 :: a8 :: a9 :: a10 :: a11 :: tl) (.long x :: rest) :=
  z_lstore (i := 10) hd pc' he h1 (by simp) k
theorem z_inc10 {n : Int} {x v : Int32} {a0 a1 a2 a3 a4 a5 a6 a7 a8 a9 : Option Value} (hd : decode M.2.1 pc = .ok (.iinc 10 n, 3)) (pc' : Nat) (he : pc + 3 = pc') (hv : x + Int32.ofInt n = v) (h1 : zn1 (a0 :: a1 :: a2 :: a3 :: a4 :: a5 :: a6 :: a7 :: a8 :: a9 :: some (.int x) :: tl) 10 = true) (k : Z l D M mc ms Q hp cu su pc' (a0 :: a1 :: a2 :: a3 :: a4 :: a5 :: a6 :: a7 :: a8 :: a9 :: some (.int v) :: tl) rest) : Z l D M mc ms Q hp cu su pc (a0 :: a1 :: a2 :: a3 :: a4 :: a5 :: a6 :: a7 :: a8 :: a9 :: some (.int x) :: tl) rest :=
  z_iinc (i := 10) hd pc' he rfl hv h1 k
theorem z_incN10 {j : Nat} {a0 a1 a2 a3 a4 a5 a6 a7 a8 a9 : Option Value} (hd : decode M.2.1 pc = .ok (.iinc 10 1, 3)) (pc' : Nat) (he : pc + 3 = pc') (h1 : zn1 (a0 :: a1 :: a2 :: a3 :: a4 :: a5 :: a6 :: a7 :: a8 :: a9 :: some (.int (nI j)) :: tl) 10 = true) (k : Z l D M mc ms Q hp cu su pc' (a0 :: a1 :: a2 :: a3 :: a4 :: a5 :: a6 :: a7 :: a8 :: a9 :: some (.int (nI (j + 1))) :: tl) rest) : Z l D M mc ms Q hp cu su pc (a0 :: a1 :: a2 :: a3 :: a4 :: a5 :: a6 :: a7 :: a8 :: a9 :: some (.int (nI j)) :: tl) rest :=
  z_iinc (i := 10) hd pc' he rfl (nI_succ j).symm h1 k
theorem z_ist11 {x : Int32} {a0 a1 a2 a3 a4 a5 a6 a7 a8 a9 a10 a11 : Option Value} (hd : decode M.2.1 pc = .ok (.istore 11, 2)) (pc' : Nat) (he : pc + 2 = pc') (h1 : zn1 (a0 :: a1 :: a2 :: a3 :: a4 :: a5 :: a6 :: a7 :: a8 :: a9 :: a10 :: a11 :: tl) 11 = true) (k : Z l D M mc ms Q hp cu su pc' (a0 :: a1 :: a2 :: a3 :: a4 :: a5 :: a6 :: a7 :: a8 :: a9 :: a10 :: some (.int x) :: tl) rest) : Z l D M mc ms Q hp cu su pc (a0 :: a1 :: a2 :: a3 :: a4 :: a5 :: a6 :: a7 :: a8 :: a9 :: a10 :: a11 :: tl) (.int x :: rest) :=
  z_istore (i := 11) hd pc' he h1 (by simp) k
theorem z_ast11 {x : Nat} {a0 a1 a2 a3 a4 a5 a6 a7 a8 a9 a10 a11 : Option Value} (hd : decode M.2.1 pc = .ok (.astore 11, 2)) (pc' : Nat) (he : pc + 2 = pc') (h1 : zn1 (a0 :: a1 :: a2 :: a3 :: a4 :: a5 :: a6 :: a7 :: a8 :: a9 :: a10 :: a11 :: tl) 11 = true) (k : Z l D M mc ms Q hp cu su pc' (a0 :: a1 :: a2 :: a3 :: a4 :: a5 :: a6 :: a7 :: a8 :: a9 :: a10 :: some (.ref x) :: tl) rest) : Z l D M mc ms Q hp cu su pc (a0 :: a1 :: a2 :: a3 :: a4 :: a5 :: a6 :: a7 :: a8 :: a9 :: a10 :: a11 :: tl) (.ref x :: rest) :=
  z_astore (i := 11) hd pc' he h1 (by simp) k
theorem z_astN11 {a0 a1 a2 a3 a4 a5 a6 a7 a8 a9 a10 a11 : Option Value} (hd : decode M.2.1 pc = .ok (.astore 11, 2)) (pc' : Nat) (he : pc + 2 = pc') (h1 : zn1 (a0 :: a1 :: a2 :: a3 :: a4 :: a5 :: a6 :: a7 :: a8 :: a9 :: a10 :: a11 :: tl) 11 = true) (k : Z l D M mc ms Q hp cu su pc' (a0 :: a1 :: a2 :: a3 :: a4 :: a5 :: a6 :: a7 :: a8 :: a9 :: a10 :: some (.null) :: tl) rest) : Z l D M mc ms Q hp cu su pc (a0 :: a1 :: a2 :: a3 :: a4 :: a5 :: a6 :: a7 :: a8 :: a9 :: a10 :: a11 :: tl) (.null :: rest) :=
  z_astoreN (i := 11) hd pc' he h1 (by simp) k
theorem z_astq11 {x : Option Nat} {a0 a1 a2 a3 a4 a5 a6 a7 a8 a9 a10 a11 : Option Value} (hd : decode M.2.1 pc = .ok (.astore 11, 2)) (pc' : Nat) (he : pc + 2 = pc') (h1 : zn1 (a0 :: a1 :: a2 :: a3 :: a4 :: a5 :: a6 :: a7 :: a8 :: a9 :: a10 :: a11 :: tl) 11 = true) (k : Z l D M mc ms Q hp cu su pc' (a0 :: a1 :: a2 :: a3 :: a4 :: a5 :: a6 :: a7 :: a8 :: a9 :: a10 :: some (va_rf x) :: tl) rest) : Z l D M mc ms Q hp cu su pc (a0 :: a1 :: a2 :: a3 :: a4 :: a5 :: a6 :: a7 :: a8 :: a9 :: a10 :: a11 :: tl) (va_rf x :: rest) :=
  z_astoreq (i := 11) hd pc' he h1 (by simp) k
theorem z_lst11 {x : Int64} {a0 a1 a2 a3 a4 a5 a6 a7 a8 a9 a10 a11 a12 : Option Value} (hd : decode M.2.1 pc = .ok (.lstore 11, 2)) (pc' : Nat) (he : pc + 2 = pc') (h1 : zn1 (a0 :: a1 :: a2 :: a3 :: a4 :: a5 :: a6 :: a7 :: a8 :: a9 :: a10 :: a11 :: a12 :: tl) 11 = true) (k : Z l D M mc ms Q hp cu su pc' (a0 :: a1 :: a2 :: a3 :: a4 :: a5 :: a6 :: a7 :: a8 :: a9 :: a10 :: some (.long x) :: none :: tl) rest) : Z l D M mc ms Q hp cu su pc (a0 :: a1 :: a2 :: a3 :: a4 :: a5 :: a6 :: a7 :: a8 :: a9 :: a10 :: a11 :: a12 :: tl) (.long x :: rest) :=
  z_lstore (i := 11) hd pc' he h1 (by simp) k
theorem z_inc11 {n : Int} {x v : Int32} {a0 a1 a2 a3 a4 a5 a6 a7 a8 a9 a10 : Option Value} (hd : decode M.2.1 pc = .ok (.iinc 11 n, 3)) (pc' : Nat) (he : pc + 3 = pc') (hv : x + Int32.ofInt n = v) (h1 : zn1 (a0 :: a1 :: a2 :: a3 :: a4 :: a5 :: a6 :: a7 :: a8 :: a9 :: a10 :: some (.int x) :: tl) 11 = true) (k : Z l D M mc ms Q hp cu su pc' (a0 :: a1 :: a2 :: a3 :: a4 :: a5 :: a6 :: a7 :: a8 :: a9 :: a10 :: some (.int v) :: tl) rest) : Z l D M mc ms Q hp cu su pc (a0 :: a1 :: a2 :: a3 :: a4 :: a5 :: a6 :: a7 :: a8 :: a9 :: a10 :: some (.int x) :: tl) rest :=
  z_iinc (i := 11) hd pc' he rfl hv h1 k
theorem z_incN11 {j : Nat} {a0 a1 a2 a3 a4 a5 a6 a7 a8 a9 a10 : Option Value} (hd : decode M.2.1 pc = .ok (.iinc 11 1, 3)) (pc' : Nat) (he : pc + 3 = pc') (h1 : zn1 (a0 :: a1 :: a2 :: a3 :: a4 :: a5 :: a6 :: a7 :: a8 :: a9 :: a10 :: some (.int (nI j)) :: tl) 11 = true) (k : Z l D M mc ms Q hp cu su pc' (a0 :: a1 :: a2 :: a3 :: a4 :: a5 :: a6 :: a7 :: a8 :: a9 :: a10 :: some (.int (nI (j + 1))) :: tl) rest) : Z l D M mc ms Q hp cu su pc (a0 :: a1 :: a2 :: a3 :: a4 :: a5 :: a6 :: a7 :: a8 :: a9 :: a10 :: some (.int (nI j)) :: tl) rest :=
  z_iinc (i := 11) hd pc' he rfl (nI_succ j).symm h1 k
theorem z_ist12 {x : Int32} {a0 a1 a2 a3 a4 a5 a6 a7 a8 a9 a10 a11 a12 : Option Value} (hd : decode M.2.1 pc = .ok (.istore 12, 2)) (pc' : Nat) (he : pc + 2 = pc') (h1 : zn1 (a0 :: a1 :: a2 :: a3 :: a4 :: a5 :: a6 :: a7 :: a8 :: a9 :: a10 :: a11 :: a12 :: tl) 12 = true) (k : Z l D M mc ms Q hp cu su pc' (a0 :: a1 :: a2 :: a3 :: a4 :: a5 :: a6 :: a7 :: a8 :: a9 :: a10 :: a11 :: some (.int x) :: tl) rest) : Z l D M mc ms Q hp cu su pc (a0 :: a1 :: a2 :: a3 :: a4 :: a5 :: a6 :: a7 :: a8 :: a9 :: a10 :: a11 :: a12 :: tl) (.int x :: rest) :=
  z_istore (i := 12) hd pc' he h1 (by simp) k
theorem z_ast12 {x : Nat} {a0 a1 a2 a3 a4 a5 a6 a7 a8 a9 a10 a11 a12 : Option Value} (hd : decode M.2.1 pc = .ok (.astore 12, 2)) (pc' : Nat) (he : pc + 2 = pc') (h1 : zn1 (a0 :: a1 :: a2 :: a3 :: a4 :: a5 :: a6 :: a7 :: a8 :: a9 :: a10 :: a11 :: a12 :: tl) 12 = true) (k : Z l D M mc ms Q hp cu su pc' (a0 :: a1 :: a2 :: a3 :: a4 :: a5 :: a6 :: a7 :: a8 :: a9 :: a10 :: a11 :: some (.ref x) :: tl) rest) : Z l D M mc ms Q hp cu su pc (a0 :: a1 :: a2 :: a3 :: a4 :: a5 :: a6 :: a7 :: a8 :: a9 :: a10 :: a11 :: a12 :: tl) (.ref x :: rest) :=
  z_astore (i := 12) hd pc' he h1 (by simp) k
theorem z_astN12 {a0 a1 a2 a3 a4 a5 a6 a7 a8 a9 a10 a11 a12 : Option Value} (hd : decode M.2.1 pc = .ok (.astore 12, 2)) (pc' : Nat) (he : pc + 2 = pc') (h1 : zn1 (a0 :: a1 :: a2 :: a3 :: a4 :: a5 :: a6 :: a7 :: a8 :: a9 :: a10 :: a11 :: a12 :: tl) 12 = true) (k : Z l D M mc ms Q hp cu su pc' (a0 :: a1 :: a2 :: a3 :: a4 :: a5 :: a6 :: a7 :: a8 :: a9 :: a10 :: a11 :: some (.null) :: tl) rest) : Z l D M mc ms Q hp cu su pc (a0 :: a1 :: a2 :: a3 :: a4 :: a5 :: a6 :: a7 :: a8 :: a9 :: a10 :: a11 :: a12 :: tl) (.null :: rest) :=
  z_astoreN (i := 12) hd pc' he h1 (by simp) k
theorem z_astq12 {x : Option Nat} {a0 a1 a2 a3 a4 a5 a6 a7 a8 a9 a10 a11 a12 : Option Value} (hd : decode M.2.1 pc = .ok (.astore 12, 2)) (pc' : Nat) (he : pc + 2 = pc') (h1 : zn1 (a0 :: a1 :: a2 :: a3 :: a4 :: a5 :: a6 :: a7 :: a8 :: a9 :: a10 :: a11 :: a12 :: tl) 12 = true) (k : Z l D M mc ms Q hp cu su pc' (a0 :: a1 :: a2 :: a3 :: a4 :: a5 :: a6 :: a7 :: a8 :: a9 :: a10 :: a11 :: some (va_rf x) :: tl) rest) : Z l D M mc ms Q hp cu su pc (a0 :: a1 :: a2 :: a3 :: a4 :: a5 :: a6 :: a7 :: a8 :: a9 :: a10 :: a11 :: a12 :: tl) (va_rf x :: rest) :=
  z_astoreq (i := 12) hd pc' he h1 (by simp) k
theorem z_lst12 {x : Int64} {a0 a1 a2 a3 a4 a5 a6 a7 a8 a9 a10 a11 a12 a13 : Option Value} (hd : decode M.2.1 pc = .ok (.lstore 12, 2)) (pc' : Nat) (he : pc + 2 = pc') (h1 : zn1 (a0 :: a1 :: a2 :: a3 :: a4 :: a5 :: a6 :: a7 :: a8 :: a9 :: a10 :: a11 :: a12 :: a13 :: tl) 12 = true) (k : Z l D M mc ms Q hp cu su pc' (a0 :: a1 :: a2 :: a3 :: a4 :: a5 :: a6 :: a7 :: a8 :: a9 :: a10 :: a11 :: some (.long x) :: none :: tl) rest) : Z l D M mc ms Q hp cu su pc (a0 :: a1 :: a2 :: a3 :: a4 :: a5 :: a6 :: a7 :: a8 :: a9 :: a10 :: a11 :: a12 :: a13 :: tl) (.long x :: rest) :=
  z_lstore (i := 12) hd pc' he h1 (by simp) k
theorem z_inc12 {n : Int} {x v : Int32} {a0 a1 a2 a3 a4 a5 a6 a7 a8 a9 a10 a11 : Option Value} (hd : decode M.2.1 pc = .ok (.iinc 12 n, 3)) (pc' : Nat) (he : pc + 3 = pc') (hv : x + Int32.ofInt n = v) (h1 : zn1 (a0 :: a1 :: a2 :: a3 :: a4 :: a5 :: a6 :: a7 :: a8 :: a9 :: a10 :: a11 :: some (.int x) :: tl) 12 = true) (k : Z l D M mc ms Q hp cu su pc' (a0 :: a1 :: a2 :: a3 :: a4 :: a5 :: a6 :: a7 :: a8 :: a9 :: a10 :: a11 :: some (.int v) :: tl) rest) : Z l D M mc ms Q hp cu su pc (a0 :: a1 :: a2 :: a3 :: a4 :: a5 :: a6 :: a7 :: a8 :: a9 :: a10 :: a11 :: some (.int x) :: tl) rest :=
  z_iinc (i := 12) hd pc' he rfl hv h1 k
theorem z_incN12 {j : Nat} {a0 a1 a2 a3 a4 a5 a6 a7 a8 a9 a10 a11 : Option Value} (hd : decode M.2.1 pc = .ok (.iinc 12 1, 3)) (pc' : Nat) (he : pc + 3 = pc') (h1 : zn1 (a0 :: a1 :: a2 :: a3 :: a4 :: a5 :: a6 :: a7 :: a8 :: a9 :: a10 :: a11 :: some (.int (nI j)) :: tl) 12 = true) (k : Z l D M mc ms Q hp cu su pc' (a0 :: a1 :: a2 :: a3 :: a4 :: a5 :: a6 :: a7 :: a8 :: a9 :: a10 :: a11 :: some (.int (nI (j + 1))) :: tl) rest) : Z l D M mc ms Q hp cu su pc (a0 :: a1 :: a2 :: a3 :: a4 :: a5 :: a6 :: a7 :: a8 :: a9 :: a10 :: a11 :: some (.int (nI j)) :: tl) rest :=
  z_iinc (i := 12) hd pc' he rfl (nI_succ j).symm h1 k
theorem z_ist13 {x : Int32} {a0 a1 a2 a3 a4 a5 a6 a7 a8 a9 a10 a11 a12 a13 : Option Value} (hd : decode M.2.1 pc = .ok (.istore 13, 2)) (pc' : Nat) (he : pc + 2 = pc') (h1 : zn1 (a0 :: a1 :: a2 :: a3 :: a4 :: a5 :: a6 :: a7 :: a8 :: a9 :: a10 :: a11 :: a12 :: a13 :: tl) 13 = true) (k : Z l D M mc ms Q hp cu su pc' (a0 :: a1 :: a2 :: a3 :: a4 :: a5 :: a6 :: a7 :: a8 :: a9 :: a10 :: a11 :: a12 :: some (.int x) :: tl) rest) : Z l D M mc ms Q hp cu su pc (a0 :: a1 :: a2 :: a3 :: a4 :: a5 :: a6 :: a7 :: a8 :: a9 :: a10 :: a11 :: a12 :: a13 :: tl) (.int x :: rest) :=
  z_istore (i := 13) hd pc' he h1 (by simp) k
theorem z_ast13 {x : Nat} {a0 a1 a2 a3 a4 a5 a6 a7 a8 a9 a10 a11 a12 a13 : Option Value} (hd : decode M.2.1 pc = .ok (.astore 13, 2)) (pc' : Nat) (he : pc + 2 = pc') (h1 : zn1 (a0 :: a1 :: a2 :: a3 :: a4 :: a5 :: a6 :: a7 :: a8 :: a9 :: a10 :: a11 :: a12 :: a13 :: tl) 13 = true) (k : Z l D M mc ms Q hp cu su pc' (a0 :: a1 :: a2 :: a3 :: a4 :: a5 :: a6 :: a7 :: a8 :: a9 :: a10 :: a11 :: a12 :: some (.ref x) :: tl) rest) : Z l D M mc ms Q hp cu su pc (a0 :: a1 :: a2 :: a3 :: a4 :: a5 :: a6 :: a7 :: a8 :: a9 :: a10 :: a11 :: a12 :: a13 :: tl) (.ref x :: rest) :=
  z_astore (i := 13) hd pc' he h1 (by simp) k
theorem z_astN13 {a0 a1 a2 a3 a4 a5 a6 a7 a8 a9 a10 a11 a12 a13 : Option Value} (hd : decode M.2.1 pc = .ok (.astore 13, 2)) (pc' : Nat) (he : pc + 2 = pc') (h1 : zn1 (a0 :: a1 :: a2 :: a3 :: a4 :: a5 :: a6 :: a7 :: a8 :: a9 :: a10 :: a11 :: a12 :: a13 :: tl) 13 = true) (k : Z l D M mc ms Q hp cu su pc' (a0 :: a1 :: a2 :: a3 :: a4 :: a5 :: a6 :: a7 :: a8 :: a9 :: a10 :: a11 :: a12 :: some (.null) :: tl) rest) : Z l D M mc ms Q hp cu su pc (a0 :: a1 :: a2 :: a3 :: a4 :: a5 :: a6 :: a7 :: a8 :: a9 :: a10 :: a11 :: a12 :: a13 :: tl) (.null :: rest) :=
  z_astoreN (i := 13) hd pc' he h1 (by simp) k
theorem z_astq13 {x : Option Nat} {a0 a1 a2 a3 a4 a5 a6 a7 a8 a9 a10 a11 a12 a13 : Option Value} (hd : decode M.2.1 pc = .ok (.astore 13, 2)) (pc' : Nat) (he : pc + 2 = pc') (h1 : zn1 (a0 :: a1 :: a2 :: a3 :: a4 :: a5 :: a6 :: a7 :: a8 :: a9 :: a10 :: a11 :: a12 :: a13 :: tl) 13 = true) (k : Z l D M mc ms Q hp cu su pc' (a0 :: a1 :: a2 :: a3 :: a4 :: a5 :: a6 :: a7 :: a8 :: a9 :: a10 :: a11 :: a12 :: some (va_rf x) :: tl) rest) : Z l D M mc ms Q hp cu su pc (a0 :: a1 :: a2 :: a3 :: a4 :: a5 :: a6 :: a7 :: a8 :: a9 :: a10 :: a11 :: a12 :: a13 :: tl) (va_rf x :: rest) :=
  z_astoreq (i := 13) hd pc' he h1 (by simp) k
theorem z_lst13 {x : Int64} {a0 a1 a2 a3 a4 a5 a6 a7 a8 a9 a10 a11 a12 a13 a14 : Option Value} (hd : decode M.2.1 pc = .ok (.lstore 13, 2)) (pc' : Nat) (he : pc + 2 = pc') (h1 : zn1 (a0 :: a1 :: a2 :: a3 :: a4 :: a5 :: a6 :: a7 :: a8 :: a9 :: a10 :: a11 :: a12 :: a13 :: a14 :: tl) 13 = true) (k : Z l D M mc ms Q hp cu su pc' (a0 :: a1 :: a2 :: a3 :: a4 :: a5 :: a6 :: a7 :: a8 :: a9 :: a10 :: a11 :: a12 :: some (.long x) :: none :: tl) rest) : Z l D M mc ms Q hp cu su pc (a0 :: a1 :: a2 :: a3 :: a4 :: a5 :: a6 :: a7 :: a8 :: a9 :: a10 :: a11 :: a12 :: a13 :: a14 :: tl) (.long x :: rest) :=
  z_lstore (i := 13) hd pc' he h1 (by simp) k
theorem z_inc13 {n : Int} {x v : Int32} {a0 a1 a2 a3 a4 a5 a6 a7 a8 a9 a10 a11 a12 : Option Value} (hd : decode M.2.1 pc = .ok (.iinc 13 n, 3)) (pc' : Nat) (he : pc + 3 = pc') (hv : x + Int32.ofInt n = v) (h1 : zn1 (a0 :: a1 :: a2 :: a3 :: a4 :: a5 :: a6 :: a7 :: a8 :: a9 :: a10 :: a11 :: a12 :: some (.int x) :: tl) 13 = true) (k : Z l D M mc ms Q hp cu su pc' (a0 :: a1 :: a2 :: a3 :: a4 :: a5 :: a6 :: a7 :: a8 :: a9 :: a10 :: a11 :: a12 :: some (.int v) :: tl) rest) : Z l D M mc ms Q hp cu su pc (a0 :: a1 :: a2 :: a3 :: a4 :: a5 :: a6 :: a7 :: a8 :: a9 :: a10 :: a11 :: a12 :: some (.int x) :: tl) rest :=
  z_iinc (i := 13) hd pc' he rfl hv h1 k
theorem z_incN13 {j : Nat} {a0 a1 a2 a3 a4 a5 a6 a7 a8 a9 a10 a11 a12 : Option Value} (hd : decode M.2.1 pc = .ok (.iinc 13 1, 3)) (pc' : Nat) (he : pc + 3 = pc') (h1 : zn1 (a0 :: a1 :: a2 :: a3 :: a4 :: a5 :: a6 :: a7 :: a8 :: a9 :: a10 :: a11 :: a12 :: some (.int (nI j)) :: tl) 13 = true) (k : Z l D M mc ms Q hp cu su pc' (a0 :: a1 :: a2 :: a3 :: a4 :: a5 :: a6 :: a7 :: a8 :: a9 :: a10 :: a11 :: a12 :: some (.int (nI (j + 1))) :: tl) rest) : Z l D M mc ms Q hp cu su pc (a0 :: a1 :: a2 :: a3 :: a4 :: a5 :: a6 :: a7 :: a8 :: a9 :: a10 :: a11 :: a12 :: some (.int (nI j)) :: tl) rest :=
  z_iinc (i := 13) hd pc' he rfl (nI_succ j).symm h1 k
theorem z_ist14 {x : Int32} {a0 a1 a2 a3 a4 a5 a6 a7 a8 a9 a10 a11 a12 a13 a14 : Option Value} (hd : decode M.2.1 pc = .ok (.istore 14, 2)) (pc' : Nat) (he : pc + 2 = pc') (h1 : zn1 (a0 :: a1 :: a2 :: a3 :: a4 :: a5 :: a6 :: a7 :: a8 :: a9 :: a10 :: a11 :: a12 :: a13 :: a14 :: tl) 14 = true) (k : Z l D M mc ms Q hp cu su pc' (a0 :: a1 :: a2 :: a3 :: a4 :: a5 :: a6 :: a7 :: a8 :: a9 :: a10 :: a11 :: a12 :: a13 :: some (.int x) :: tl) rest) : Z l D M mc ms Q hp cu su pc (a0 :: a1 :: a2 :: a3 :: a4 :: a5 :: a6 :: a7 :: a8 :: a9 :: a10 :: a11 :: a12 :: a13 :: a14 :: tl) (.int x :: rest) :=
  z_istore (i := 14) hd pc' he h1 (by simp) k
theorem z_ast14 {x : Nat} {a0 a1 a2 a3 a4 a5 a6 a7 a8 a9 a10 a11 a12 a13 a14 : Option Value} (hd : decode M.2.1 pc = .ok (.astore 14, 2)) (pc' : Nat) (he : pc + 2 = pc') (h1 : zn1 (a0 :: a1 :: a2 :: a3 :: a4 :: a5 :: a6 :: a7 :: a8 :: a9 :: a10 :: a11 :: a12 :: a13 :: a14 :: tl) 14 = true) (k : Z l D M mc ms Q hp cu su pc' (a0 :: a1 :: a2 :: a3 :: a4 :: a5 :: a6 :: a7 :: a8 :: a9 :: a10 :: a11 :: a12 :: a13 :: some (.ref x) :: tl) rest) : Z l D M mc ms Q hp cu su pc (a0 :: a1 :: a2 :: a3 :: a4 :: a5 :: a6 :: a7 :: a8 :: a9 :: a10 :: a11 :: a12 :: a13 :: a14 :: tl) (.ref x :: rest) :=
  z_astore (i := 14) hd pc' he h1 (by simp) k
theorem z_astN14 {a0 a1 a2 a3 a4 a5 a6 a7 a8 a9 a10 a11 a12 a13 a14 : Option Value} (hd : decode M.2.1 pc = .ok (.astore 14, 2)) (pc' : Nat) (he : pc + 2 = pc') (h1 : zn1 (a0 :: a1 :: a2 :: a3 :: a4 :: a5 :: a6 :: a7 :: a8 :: a9 :: a10 :: a11 :: a12 :: a13 :: a14 :: tl) 14 = true) (k : Z l D M mc ms Q hp cu su pc' (a0 :: a1 :: a2 :: a3 :: a4 :: a5 :: a6 :: a7 :: a8 :: a9 :: a10 :: a11 :: a12 :: a13 :: some (.null) :: tl) rest) : Z l D M mc ms Q hp cu su pc (a0 :: a1 :: a2 :: a3 :: a4 :: a5 :: a6 :: a7 :: a8 :: a9 :: a10 :: a11 :: a12 :: a13 :: a14 :: tl) (.null :: rest) :=
  z_astoreN (i := 14) hd pc' he h1 (by simp) k
theorem z_astq14 {x : Option Nat} {a0 a1 a2 a3 a4 a5 a6 a7 a8 a9 a10 a11 a12 a13 a14 : Option Value} (hd : decode M.2.1 pc = .ok (.astore 14, 2)) (pc' : Nat) (he : pc + 2 = pc') (h1 : zn1 (a0 :: a1 :: a2 :: a3 :: a4 :: a5 :: a6 :: a7 :: a8 :: a9 :: a10 :: a11 :: a12 :: a13 :: a14 :: tl) 14 = true) (k : Z l D M mc ms Q hp cu su pc' (a0 :: a1 :: a2 :: a3 :: a4 :: a5 :: a6 :: a7 :: a8 :: a9 :: a10 :: a11 :: a12 :: a13 :: some (va_rf x) :: tl) rest) : Z l D M mc ms Q hp cu su pc (a0 :: a1 :: a2 :: a3 :: a4 :: a5 :: a6 :: a7 :: a8 :: a9 :: a10 :: a11 :: a12 :: a13 :: a14 :: tl) (va_rf x :: rest) :=
  z_astoreq (i := 14) hd pc' he h1 (by simp) k
theorem z_lst14 {x : Int64} {a0 a1 a2 a3 a4 a5 a6 a7 a8 a9 a10 a11 a12 a13 a14 a15 : Option Value} (hd : decode M.2.1 pc = .ok (.lstore 14, 2)) (pc' : Nat) (he : pc + 2 = pc') (h1 : zn1 (a0 :: a1 :: a2 :: a3 :: a4 :: a5 :: a6 :: a7 :: a8 :: a9 :: a10 :: a11 :: a12 :: a13 :: a14 :: a15 :: tl) 14 = true) (k : Z l D M mc ms Q hp cu su pc' (a0 :: a1 :: a2 :: a3 :: a4 :: a5 :: a6 :: a7 :: a8 :: a9 :: a10 :: a11 :: a12 :: a13 :: some (.long x) :: none :: tl) rest) : Z l D M mc ms Q hp cu su pc (a0 :: a1 :: a2 :: a3 :: a4 :: a5 :: a6 :: a7 :: a8 :: a9 :: a10 :: a11 :: a12 :: a13 :: a14 :: a15 :: tl) (.long x :: rest) :=
  z_lstore (i := 14) hd pc' he h1 (by simp) k
theorem z_inc14 {n : Int} {x v : Int32} {a0 a1 a2 a3 a4 a5 a6 a7 a8 a9 a10 a11 a12 a13 : Option Value} (hd : decode M.2.1 pc = .ok (.iinc 14 n, 3)) (pc' : Nat) (he : pc + 3 = pc') (hv : x + Int32.ofInt n = v) (h1 : zn1 (a0 :: a1 :: a2 :: a3 :: a4 :: a5 :: a6 :: a7 :: a8 :: a9 :: a10 :: a11 :: a12 :: a13 :: some (.int x) :: tl) 14 = true) (k : Z l D M mc ms Q hp cu su pc' (a0 :: a1 :: a2 :: a3 :: a4 :: a5 :: a6 :: a7 :: a8 :: a9 :: a10 :: a11 :: a12 :: a13 :: some (.int v) :: tl) rest) : Z l D M mc ms Q hp cu su pc (a0 :: a1 :: a2 :: a3 :: a4 :: a5 :: a6 :: a7 :: a8 :: a9 :: a10 :: a11 :: a12 :: a13 :: some (.int x) :: tl) rest :=
  z_iinc (i := 14) hd pc' he rfl hv h1 k
theorem z_incN14 {j : Nat} {a0 a1 a2 a3 a4 a5 a6 a7 a8 a9 a10 a11 a12 a13 : Option Value} (hd : decode M.2.1 pc = .ok (.iinc 14 1, 3)) (pc' : Nat) (he : pc + 3 = pc') (h1 : zn1 (a0 :: a1 :: a2 :: a3 :: a4 :: a5 :: a6 :: a7 :: a8 :: a9 :: a10 :: a11 :: a12 :: a13 :: some (.int (nI j)) :: tl) 14 = true) (k : Z l D M mc ms Q hp cu su pc' (a0 :: a1 :: a2 :: a3 :: a4 :: a5 :: a6 :: a7 :: a8 :: a9 :: a10 :: a11 :: a12 :: a13 :: some (.int (nI (j + 1))) :: tl) rest) : Z l D M mc ms Q hp cu su pc (a0 :: a1 :: a2 :: a3 :: a4 :: a5 :: a6 :: a7 :: a8 :: a9 :: a10 :: a11 :: a12 :: a13 :: some (.int (nI j)) :: tl) rest :=
  z_iinc (i := 14) hd pc' he rfl (nI_succ j).symm h1 k
theorem z_ist15 {x : Int32} {a0 a1 a2 a3 a4 a5 a6 a7 a8 a9 a10 a11 a12 a13 a14 a15 : Option Value} (hd : decode M.2.1 pc = .ok (.istore 15, 2)) (pc' : Nat) (he : pc + 2 = pc') (h1 : zn1 (a0 :: a1 :: a2 :: a3 :: a4 :: a5 :: a6 :: a7 :: a8 :: a9 :: a10 :: a11 :: a12 :: a13 :: a14 :: a15 :: tl) 15 = true) (k : Z l D M mc ms Q hp cu su pc' (a0 :: a1 :: a2 :: a3 :: a4 :: a5 :: a6 :: a7 :: a8 :: a9 :: a10 :: a11 :: a12 :: a13 :: a14 :: some (.int x) :: tl) rest) : Z l D M mc ms Q hp cu su pc (a0 :: a1 :: a2 :: a3 :: a4 :: a5 :: a6 :: a7 :: a8 :: a9 :: a10 :: a11 :: a12 :: a13 :: a14 :: a15 :: tl) (.int x :: rest) :=
  z_istore (i := 15) hd pc' he h1 (by simp) k
theorem z_ast15 {x : Nat} {a0 a1 a2 a3 a4 a5 a6 a7 a8 a9 a10 a11 a12 a13 a14 a15 : Option Value} (hd : decode M.2.1 pc = .ok (.astore 15, 2)) (pc' : Nat) (he : pc + 2 = pc') (h1 : zn1 (a0 :: a1 :: a2 :: a3 :: a4 :: a5 :: a6 :: a7 :: a8 :: a9 :: a10 :: a11 :: a12 :: a13 :: a14 :: a15 :: tl) 15 = true) (k : Z l D M mc ms Q hp cu su pc' (a0 :: a1 :: a2 :: a3 :: a4 :: a5 :: a6 :: a7 :: a8 :: a9 :: a10 :: a11 :: a12 :: a13 :: a14 :: some (.ref x) :: tl) rest) : Z l D M mc ms Q hp cu su pc (a0 :: a1 :: a2 :: a3 :: a4 :: a5 :: a6 :: a7 :: a8 :: a9 :: a10 :: a11 :: a12 :: a13 :: a14 :: a15 :: tl) (.ref x :: rest) :=
  z_astore (i := 15) hd pc' he h1 (by simp) k
theorem z_astN15 {a0 a1 a2 a3 a4 a5 a6 a7 a8 a9 a10 a11 a12 a13 a14 a15 : Option Value} (hd : decode M.2.1 pc = .ok (.astore 15, 2)) (pc' : Nat) (he : pc + 2 = pc') (h1 : zn1 (a0 :: a1 :: a2 :: a3 :: a4 :: a5 :: a6 :: a7 :: a8 :: a9 :: a10 :: a11 :: a12 :: a13 :: a14 :: a15 :: tl) 15 = true) (k : Z l D M mc ms Q hp cu su pc' (a0 :: a1 :: a2 :: a3 :: a4 :: a5 :: a6 :: a7 :: a8 :: a9 :: a10 :: a11 :: a12 :: a13 :: a14 :: some (.null) :: tl) rest) : Z l D M mc ms Q hp cu su pc (a0 :: a1 :: a2 :: a3 :: a4 :: a5 :: a6 :: a7 :: a8 :: a9 :: a10 :: a11 :: a12 :: a13 :: a14 :: a15 :: tl) (.null :: rest) :=
  z_astoreN (i := 15) hd pc' he h1 (by simp) k
theorem z_astq15 {x : Option Nat} {a0 a1 a2 a3 a4 a5 a6 a7 a8 a9 a10 a11 a12 a13 a14 a15 : Option Value} (hd : decode M.2.1 pc = .ok (.astore 15, 2)) (pc' : Nat) (he : pc + 2 = pc') (h1 : zn1 (a0 :: a1 :: a2 :: a3 :: a4 :: a5 :: a6 :: a7 :: a8 :: a9 :: a10 :: a11 :: a12 :: a13 :: a14 :: a15 :: tl) 15 = true) (k : Z l D M mc ms Q hp cu su pc' (a0 :: a1 :: a2 :: a3 :: a4 :: a5 :: a6 :: a7 :: a8 :: a9 :: a10 :: a11 :: a12 :: a13 :: a14 :: some (va_rf x) :: tl) rest) : Z l D M mc ms Q hp cu su pc (a0 :: a1 :: a2 :: a3 :: a4 :: a5 :: a6 :: a7 :: a8 :: a9 :: a10 :: a11 :: a12 :: a13 :: a14 :: a15 :: tl) (va_rf x :: rest) :=
  z_astoreq (i := 15) hd pc' he h1 (by simp) k
theorem z_lst15 {x : Int64} {a0 a1 a2 a3 a4 a5 a6 a7 a8 a9 a10 a11 a12 a13 a14 a15 a16 : Option Value} (hd : decode M.2.1 pc = .ok (.lstore 15, 2)) (pc' : Nat) (he : pc + 2 = pc') (h1 : zn1 (a0 :: a1 :: a2 :: a3 :: a4 :: a5 :: a6 :: a7 :: a8 :: a9 :: a10 :: a11 :: a12 :: a13 :: a14 :: a15 :: a16 :: tl) 15 = true) (k : Z l D M mc ms Q hp cu su pc' (a0 :: a1 :: a2 :: a3 :: a4 :: a5 :: a6 :: a7 :: a8 :: a9 :: a10 :: a11 :: a12 :: a13 :: a14 :: some (.long x) :: none :: tl) rest) : Z l D M mc ms Q hp cu su pc (a0 :: a1 :: a2 :: a3 :: a4 :: a5 :: a6 :: a7 :: a8 :: a9 :: a10 :: a11 :: a12 :: a13 :: a14 :: a15 :: a16 :: tl) (.long x :: rest) :=
  z_lstore (i := 15) hd pc' he h1 (by simp) k
theorem z_inc15 {n : Int} {x v : Int32} {a0 a1 a2 a3 a4 a5 a6 a7 a8 a9 a10 a11 a12 a13 a14 : Option Value} (hd : decode M.2.1 pc = .ok (.iinc 15 n, 3)) (pc' : Nat) (he : pc + 3 = pc') (hv : x + Int32.ofInt n = v) (h1 : zn1 (a0 :: a1 :: a2 :: a3 :: a4 :: a5 :: a6 :: a7 :: a8 :: a9 :: a10 :: a11 :: a12 :: a13 :: a14 :: some (.int x) :: tl) 15 = true) (k : Z l D M mc ms Q hp cu su pc' (a0 :: a1 :: a2 :: a3 :: a4 :: a5 :: a6 :: a7 :: a8 :: a9 :: a10 :: a11 :: a12 :: a13 :: a14 :: some (.int v) :: tl) rest) : Z l D M mc ms Q hp cu su pc (a0 :: a1 :: a2 :: a3 :: a4 :: a5 :: a6 :: a7 :: a8 :: a9 :: a10 :: a11 :: a12 :: a13 :: a14 :: some (.int x) :: tl) rest :=
  z_iinc (i := 15) hd pc' he rfl hv h1 k
theorem z_incN15 {j : Nat} {a0 a1 a2 a3 a4 a5 a6 a7 a8 a9 a10 a11 a12 a13 a14 : Option Value} (hd : decode M.2.1 pc = .ok (.iinc 15 1, 3)) (pc' : Nat) (he : pc + 3 = pc') (h1 : zn1 (a0 :: a1 :: a2 :: a3 :: a4 :: a5 :: a6 :: a7 :: a8 :: a9 :: a10 :: a11 :: a12 :: a13 :: a14 :: some (.int (nI j)) :: tl) 15 = true) (k : Z l D M mc ms Q hp cu su pc' (a0 :: a1 :: a2 :: a3 :: a4 :: a5 :: a6 :: a7 :: a8 :: a9 :: a10 :: a11 :: a12 :: a13 :: a14 :: some (.int (nI (j + 1))) :: tl) rest) : Z l D M mc ms Q hp cu su pc (a0 :: a1 :: a2 :: a3 :: a4 :: a5 :: a6 :: a7 :: a8 :: a9 :: a10 :: a11 :: a12 :: a13 :: a14 :: some (.int (nI j)) :: tl) rest :=
  z_iinc (i := 15) hd pc' he rfl (nI_succ j).symm h1 k
theorem z_ist16 {x : Int32} {a0 a1 a2 a3 a4 a5 a6 a7 a8 a9 a10 a11 a12 a13 a14 a15 a16 : Option Value} (hd : decode M.2.1 pc = .ok (.istore 16, 2)) (pc' : Nat) (he : pc + 2 = pc') (h1 : zn1 (a0 :: a1 :: a2 :: a3 :: a4 :: a5 :: a6 :: a7 :: a8 :: a9 :: a10 :: a11 :: a12 :: a13 :: a14 :: a15 :: a16 :: tl) 16 = true) (k : Z l D M mc ms Q hp cu su pc' (a0 :: a1 :: a2 :: a3 :: a4 :: a5 :: a6 :: a7 :: a8 :: a9 :: a10 :: a11 :: a12 :: a13 :: a14 :: a15 :: some (.int x) :: tl) rest) : Z l D M mc ms Q hp cu su pc (a0 :: a1 :: a2 :: a3 :: a4 :: a5 :: a6 :: a7 :: a8 :: a9 :: a10 :: a11 :: a12 :: a13 :: a14 :: a15 :: a16 :: tl) (.int x :: rest) :=
  z_istore (i := 16) hd pc' he h1 (by simp) k
theorem z_ast16 {x : Nat} {a0 a1 a2 a3 a4 a5 a6 a7 a8 a9 a10 a11 a12 a13 a14 a15 a16 : Option Value} (hd : decode M.2.1 pc = .ok (.astore 16, 2)) (pc' : Nat) (he : pc + 2 = pc') (h1 : zn1 (a0 :: a1 :: a2 :: a3 :: a4 :: a5 :: a6 :: a7 :: a8 :: a9 :: a10 :: a11 :: a12 :: a13 :: a14 :: a15 :: a16 :: tl) 16 = true) (k : Z l D M mc ms Q hp cu su pc' (a0 :: a1 :: a2 :: a3 :: a4 :: a5 :: a6 :: a7 :: a8 :: a9 :: a10 :: a11 :: a12 :: a13 :: a14 :: a15 :: some (.ref x) :: tl) rest) : Z l D M mc ms Q hp cu su pc (a0 :: a1 :: a2 :: a3 :: a4 :: a5 :: a6 :: a7 :: a8 :: a9 :: a10 :: a11 :: a12 :: a13 :: a14 :: a15 :: a16 :: tl) (.ref x :: rest) :=
  z_astore (i := 16) hd pc' he h1 (by simp) k
theorem z_astN16 {a0 a1 a2 a3 a4 a5 a6 a7 a8 a9 a10 a11 a12 a13 a14 a15 a16 : Option Value} (hd : decode M.2.1 pc = .ok (.astore 16, 2)) (pc' : Nat) (he : pc + 2 = pc') (h1 : zn1 (a0 :: a1 :: a2 :: a3 :: a4 :: a5 :: a6 :: a7 :: a8 :: a9 :: a10 :: a11 :: a12 :: a13 :: a14 :: a15 :: a16 :: tl) 16 = true) (k : Z l D M mc ms Q hp cu su pc' (a0 :: a1 :: a2 :: a3 :: a4 :: a5 :: a6 :: a7 :: a8 :: a9 :: a10 :: a11 :: a12 :: a13 :: a14 :: a15 :: some (.null) :: tl) rest) : Z l D M mc ms Q hp cu su pc (a0 :: a1 :: a2 :: a3 :: a4 :: a5 :: a6 :: a7 :: a8 :: a9 :: a10 :: a11 :: a12 :: a13 :: a14 :: a15 :: a16 :: tl) (.null :: rest) :=
  z_astoreN (i := 16) hd pc' he h1 (by simp) k
theorem z_astq16 {x : Option Nat} {a0 a1 a2 a3 a4 a5 a6 a7 a8 a9 a10 a11 a12 a13 a14 a15 a16 : Option Value} (hd : decode M.2.1 pc = .ok (.astore 16, 2)) (pc' : Nat) (he : pc + 2 = pc') (h1 : zn1 (a0 :: a1 :: a2 :: a3 :: a4 :: a5 :: a6 :: a7 :: a8 :: a9 :: a10 :: a11 :: a12 :: a13 :: a14 :: a15 :: a16 :: tl) 16 = true) (k : Z l D M mc ms Q hp cu su pc' (a0 :: a1 :: a2 :: a3 :: a4 :: a5 :: a6 :: a7 :: a8 :: a9 :: a10 :: a11 :: a12 :: a13 :: a14 :: a15 :: some (va_rf x) :: tl) rest) : Z l D M mc ms Q hp cu su pc (a0 :: a1 :: a2 :: a3 :: a4 :: a5 :: a6 :: a7 :: a8 :: a9 :: a10 :: a11 :: a12 :: a13 :: a14 :: a15 :: a16 :: tl) (va_rf x :: rest) :=
  z_astoreq (i := 16) hd pc' he h1 (by simp) k
theorem z_lst16 {x : Int64} {a0 a1 a2 a3 a4 a5 a6 a7 a8 a9 a10 a11 a12 a13 a14 a15 a16 a17 : Option Value} (hd : decode M.2.1 pc = .ok (.lstore 16, 2)) (pc' : Nat) (he : pc + 2 = pc') (h1 : zn1 (a0 :: a1 :: a2 :: a3 :: a4 :: a5 :: a6 :: a7 :: a8 :: a9 :: a10 :: a11 :: a12 :: a13 :: a14 :: a15 :: a16 :: a17 :: tl) 16 = true) (k : Z l D M mc ms Q hp cu su pc' (a0 :: a1 :: a2 :: a3 :: a4 :: a5 :: a6 :: a7 :: a8 :: a9 :: a10 :: a11 :: a12 :: a13 :: a14 :: a15 :: some (.long x) :: none :: tl) rest) : Z l D M mc ms Q hp cu su pc (a0 :: a1 :: a2 :: a3 :: a4 :: a5 :: a6 :: a7 :: a8 :: a9 :: a10 :: a11 :: a12 :: a13 :: a14 :: a15 :: a16 :: a17 :: tl) (.long x :: rest) :=
  z_lstore (i := 16) hd pc' he h1 (by simp) k
theorem z_inc16 {n : Int} {x v : Int32} {a0 a1 a2 a3 a4 a5 a6 a7 a8 a9 a10 a11 a12 a13 a14 a15 : Option Value} (hd : decode M.2.1 pc = .ok (.iinc 16 n, 3)) (pc' : Nat) (he : pc + 3 = pc') (hv : x + Int32.ofInt n = v) (h1 : zn1 (a0 :: a1 :: a2 :: a3 :: a4 :: a5 :: a6 :: a7 :: a8 :: a9 :: a10 :: a11 :: a12 :: a13 :: a14 :: a15 :: some (.int x) :: tl) 16 = true) (k : Z l D M mc ms Q hp cu su pc' (a0 :: a1 :: a2 :: a3 :: a4 :: a5 :: a6 :: a7 :: a8 :: a9 :: a10 :: a11 :: a12 :: a13 :: a14 :: a15 :: some (.int v) :: tl) rest) : Z l D M mc ms Q hp cu su pc (a0 :: a1 :: a2 :: a3 :: a4 :: a5 :: a6 :: a7 :: a8 :: a9 :: a10 :: a11 :: a12 :: a13 :: a14 :: a15 :: some (.int x) :: tl) rest :=
  z_iinc (i := 16) hd pc' he rfl hv h1 k
theorem z_incN16 {j : Nat} {a0 a1 a2 a3 a4 a5 a6 a7 a8 a9 a10 a11 a12 a13 a14 a15 : Option Value} (hd : decode M.2.1 pc = .ok (.iinc 16 1, 3)) (pc' : Nat) (he : pc + 3 = pc') (h1 : zn1 (a0 :: a1 :: a2 :: a3 :: a4 :: a5 :: a6 :: a7 :: a8 :: a9 :: a10 :: a11 :: a12 :: a13 :: a14 :: a15 :: some (.int (nI j)) :: tl) 16 = true) (k : Z l D M mc ms Q hp cu su pc' (a0 :: a1 :: a2 :: a3 :: a4 :: a5 :: a6 :: a7 :: a8 :: a9 :: a10 :: a11 :: a12 :: a13 :: a14 :: a15 :: some (.int (nI (j + 1))) :: tl) rest) : Z l D M mc ms Q hp cu su pc (a0 :: a1 :: a2 :: a3 :: a4 :: a5 :: a6 :: a7 :: a8 :: a9 :: a10 :: a11 :: a12 :: a13 :: a14 :: a15 :: some (.int (nI j)) :: tl) rest :=
  z_iinc (i := 16) hd pc' he rfl (nI_succ j).symm h1 k
theorem z_iaddN {a b : Nat} (hd : decode M.2.1 pc = .ok (.iadd, 1)) (pc' : Nat) (he : pc + 1 = pc') (k : Z l D M mc ms Q hp cu su pc' lv (.int (nI (a + b)) :: rest)) : Z l D M mc ms Q hp cu su pc lv (.int (nI b) :: .int (nI a) :: rest) :=
  z_iadd hd pc' he (by rw [nI_add]; exact k)
theorem z_imulN {a b : Nat} (hd : decode M.2.1 pc = .ok (.imul, 1)) (pc' : Nat) (he : pc + 1 = pc') (k : Z l D M mc ms Q hp cu su pc' lv (.int (nI (a * b)) :: rest)) : Z l D M mc ms Q hp cu su pc lv (.int (nI b) :: .int (nI a) :: rest) :=
  z_imul hd pc' he (by rw [pk_mul]; exact k)
theorem z_isubN {a b : Nat} (hd : decode M.2.1 pc = .ok (.isub, 1)) (pc' : Nat) (he : pc + 1 = pc') (h : b ≤ a) (k : Z l D M mc ms Q hp cu su pc' lv (.int (nI (a - b)) :: rest)) : Z l D M mc ms Q hp cu su pc lv (.int (nI b) :: .int (nI a) :: rest) :=
  z_isub hd pc' he (by rw [pk_sub h]; exact k)
theorem z_idivN {a b : Nat} (hd : decode M.2.1 pc = .ok (.idiv, 1)) (pc' : Nat) (he : pc + 1 = pc') (ha : a < 2 ^ 31) (h0 : 0 < b) (hb : b < 2 ^ 31) (k : Z l D M mc ms Q hp cu su pc' lv (.int (nI (a / b)) :: rest)) : Z l D M mc ms Q hp cu su pc lv (.int (nI b) :: .int (nI a) :: rest) :=
  z_idiv hd pc' he (nI_ne0 h0 hb) (by rw [pk_div ha h0 hb]; exact k)
theorem z_iremN {a b : Nat} (hd : decode M.2.1 pc = .ok (.irem, 1)) (pc' : Nat) (he : pc + 1 = pc') (ha : a < 2 ^ 31) (h0 : 0 < b) (hb : b < 2 ^ 31) (k : Z l D M mc ms Q hp cu su pc' lv (.int (nI (a % b)) :: rest)) : Z l D M mc ms Q hp cu su pc lv (.int (nI b) :: .int (nI a) :: rest) :=
  z_irem hd pc' he (nI_ne0 h0 hb) (by rw [pk_rem ha h0 hb]; exact k)
theorem z_icmp_eqN {a b : Nat} {off : Int} {tgt : Nat} (hd : decode M.2.1 pc = .ok (.if_icmp .eq off, 3)) (pc' : Nat) (he : pc + 3 = pc') (ht : (pc : Int) + off = (tgt : Int)) (ha : a < 2 ^ 31) (hb : b < 2 ^ 31) (kt : a = b → Z l D M mc ms Q hp cu su tgt lv rest) (kf : a ≠ b → Z l D M mc ms Q hp cu su pc' lv rest) : Z l D M mc ms Q hp cu su pc lv (.int (nI b) :: .int (nI a) :: rest) :=
  z_icmp_eq hd pc' he ht (fun h => kt ((nI_eq ha hb).1 h)) (fun h => kf (fun q => h ((nI_eq ha hb).2 q)))
theorem z_icmp_neN {a b : Nat} {off : Int} {tgt : Nat} (hd : decode M.2.1 pc = .ok (.if_icmp .ne off, 3)) (pc' : Nat) (he : pc + 3 = pc') (ht : (pc : Int) + off = (tgt : Int)) (ha : a < 2 ^ 31) (hb : b < 2 ^ 31) (kt : a ≠ b → Z l D M mc ms Q hp cu su tgt lv rest) (kf : a = b → Z l D M mc ms Q hp cu su pc' lv rest) : Z l D M mc ms Q hp cu su pc lv (.int (nI b) :: .int (nI a) :: rest) :=
  z_icmp_ne hd pc' he ht (fun h => kt (fun q => h ((nI_eq ha hb).2 q))) (fun h => kf ((nI_eq ha hb).1 h))
theorem z_icmp_ltN {a b : Nat} {off : Int} {tgt : Nat} (hd : decode M.2.1 pc = .ok (.if_icmp .lt off, 3)) (pc' : Nat) (he : pc + 3 = pc') (ht : (pc : Int) + off = (tgt : Int)) (ha : a < 2 ^ 31) (hb : b < 2 ^ 31) (kt : a < b → Z l D M mc ms Q hp cu su tgt lv rest) (kf : b ≤ a → Z l D M mc ms Q hp cu su pc' lv rest) : Z l D M mc ms Q hp cu su pc lv (.int (nI b) :: .int (nI a) :: rest) :=
  z_icmp_lt hd pc' he ht (fun h => kt ((nI_ltI ha hb).1 h)) (fun h => kf (Nat.le_of_not_lt (fun q => h ((nI_ltI ha hb).2 q))))
theorem z_icmp_geN {a b : Nat} {off : Int} {tgt : Nat} (hd : decode M.2.1 pc = .ok (.if_icmp .ge off, 3)) (pc' : Nat) (he : pc + 3 = pc') (ht : (pc : Int) + off = (tgt : Int)) (ha : a < 2 ^ 31) (hb : b < 2 ^ 31) (kt : b ≤ a → Z l D M mc ms Q hp cu su tgt lv rest) (kf : a < b → Z l D M mc ms Q hp cu su pc' lv rest) : Z l D M mc ms Q hp cu su pc lv (.int (nI b) :: .int (nI a) :: rest) :=
  z_icmp_ge hd pc' he ht (fun h => kt ((nI_leI hb ha).1 h)) (fun h => kf (Nat.lt_of_not_le (fun q => h ((nI_leI hb ha).2 q))))
theorem z_icmp_gtN {a b : Nat} {off : Int} {tgt : Nat} (hd : decode M.2.1 pc = .ok (.if_icmp .gt off, 3)) (pc' : Nat) (he : pc + 3 = pc') (ht : (pc : Int) + off = (tgt : Int)) (ha : a < 2 ^ 31) (hb : b < 2 ^ 31) (kt : b < a → Z l D M mc ms Q hp cu su tgt lv rest) (kf : a ≤ b → Z l D M mc ms Q hp cu su pc' lv rest) : Z l D M mc ms Q hp cu su pc lv (.int (nI b) :: .int (nI a) :: rest) :=
  z_icmp_gt hd pc' he ht (fun h => kt ((nI_ltI hb ha).1 h)) (fun h => kf (Nat.le_of_not_lt (fun q => h ((nI_ltI hb ha).2 q))))
theorem z_icmp_leN {a b : Nat} {off : Int} {tgt : Nat} (hd : decode M.2.1 pc = .ok (.if_icmp .le off, 3)) (pc' : Nat) (he : pc + 3 = pc') (ht : (pc : Int) + off = (tgt : Int)) (ha : a < 2 ^ 31) (hb : b < 2 ^ 31) (kt : a ≤ b → Z l D M mc ms Q hp cu su tgt lv rest) (kf : b < a → Z l D M mc ms Q hp cu su pc' lv rest) : Z l D M mc ms Q hp cu su pc lv (.int (nI b) :: .int (nI a) :: rest) :=
  z_icmp_le hd pc' he ht (fun h => kt ((nI_leI ha hb).1 h)) (fun h => kf (Nat.lt_of_not_le (fun q => h ((nI_leI ha hb).2 q))))
theorem z_i2lN {a : Nat} (hd : decode M.2.1 pc = .ok (.i2l, 1)) (pc' : Nat) (he : pc + 1 = pc') (h : a < 2 ^ 31) (k : Z l D M mc ms Q hp cu su pc' lv (.long (lN a) :: rest)) : Z l D M mc ms Q hp cu su pc lv (.int (nI a) :: rest) :=
  z_i2l hd pc' he (nI_l h) k
theorem z_l2iN {a : Nat} (hd : decode M.2.1 pc = .ok (.l2i, 1)) (pc' : Nat) (he : pc + 1 = pc') (k : Z l D M mc ms Q hp cu su pc' lv (.int (nI a) :: rest)) : Z l D M mc ms Q hp cu su pc lv (.long (lN a) :: rest) :=
  z_l2i hd pc' he (lN_i a) k
theorem z_laddN {a b : Nat} (hd : decode M.2.1 pc = .ok (.ladd, 1)) (pc' : Nat) (he : pc + 1 = pc') (k : Z l D M mc ms Q hp cu su pc' lv (.long (lN (a + b)) :: rest)) : Z l D M mc ms Q hp cu su pc lv (.long (lN b) :: .long (lN a) :: rest) :=
  z_ladd hd pc' he (by rw [lN_add]; exact k)
theorem z_lmulN {a b : Nat} (hd : decode M.2.1 pc = .ok (.lmul, 1)) (pc' : Nat) (he : pc + 1 = pc') (k : Z l D M mc ms Q hp cu su pc' lv (.long (lN (a * b)) :: rest)) : Z l D M mc ms Q hp cu su pc lv (.long (lN b) :: .long (lN a) :: rest) :=
  z_lmul hd pc' he (by rw [lN_mul]; exact k)
theorem z_lremN {a b : Nat} (hd : decode M.2.1 pc = .ok (.lrem, 1)) (pc' : Nat) (he : pc + 1 = pc') (ha : a < 2 ^ 63) (h0 : 0 < b) (hb : b < 2 ^ 63) (k : Z l D M mc ms Q hp cu su pc' lv (.long (lN (a % b)) :: rest)) : Z l D M mc ms Q hp cu su pc lv (.long (lN b) :: .long (lN a) :: rest) :=
  z_lrem hd pc' he (fun q => Nat.ne_of_gt h0 ((pk_lEQ (b := 0) hb (by decide)).1 q)) (by rw [pk_lRem ha h0 hb]; exact k)
end ZN
end
section
/-! The reference's world: its object at o, its nine arrays behind it; va: the arrays' contents, vf: the int fields (9 .. 16). Own work. -/
def zln : Nat → Nat
  | 0 => 15840
  | 1 => 66
  | 2 => 66
  | 3 => 2
  | 4 => 64
  | 5 => 2
  | 6 => 1800
  | 7 => 2
  | 8 => 900
  | _ => 0
def zkd : Nat → Nat
  | 0 => 0
  | _ => 1
/-- where the arrays lie: as D says, if these places are apart -/
def zok (D : zD) (o : Nat) : Prop := (∀ i j, i < 9 → j < 9 → D.1.2 i = D.1.2 j → i = j) ∧ ∀ i, i < 9 → D.1.2 i ≠ o
noncomputable def zad (D : zD) (o j : Nat) : Nat := @ite Nat (zok D o) (Classical.propDecidable _) (D.1.2 j) (o + 1 + j)
theorem zad_ok {D : zD} {o : Nat} (h : zok D o) (j : Nat) : zad D o j = D.1.2 j := by
  unfold zad
  exact if_pos h
theorem zad_inj {D : zD} {o i j : Nat} (hi : i < 9) (hj : j < 9) (h : zad D o i = zad D o j) : i = j := by
  by_cases hk : zok D o
  · rw [zad_ok hk, zad_ok hk] at h
    exact hk.1 i j hi hj h
  · unfold zad at h
    rw [if_neg hk, if_neg hk] at h
    omega
theorem zad_ne {D : zD} {o j : Nat} (hj : j < 9) : zad D o j ≠ o := by
  by_cases hk : zok D o
  · rw [zad_ok hk]
    exact hk.2 j hj
  · unfold zad
    rw [if_neg hk]
    omega
noncomputable def zmo (D : zD) (o : Nat) (vf : Nat → Int32) : List Value := [.ref (zad D o 0), .ref (zad D o 1), .ref (zad D o 2), .ref (zad D o 3), .ref (zad D o 4), .ref (zad D o 5), .ref (zad D o 6), .ref (zad D o 7), .ref (zad D o 8), .int (vf 9), .int (vf 10), .int (vf 11), .int (vf 12), .int (vf 13), .int (vf 14), .int (vf 15), .int (vf 16)]
/-- a cell of the arrays, by its place -/
noncomputable def zmA (D : zD) (o : Nat) (hp : zH) (va : Nat → Nat → Int32) (q : Nat) : Nat → Option va_E
  | 0 => hp q
  | j + 1 => if q = zad D o j then some (.inl (D.2 (zkd j), zln j, .inl (va j))) else zmA D o hp va q j
noncomputable def zmod (D : zD) (o : Nat) (hp : zH) (va : Nat → Nat → Int32) (vf : Nat → Int32) : zH := fun q =>
  if q = o then some (.inr (ciM, zmo D o vf)) else zmA D o hp va q 9
theorem zmod_o (D : zD) (o : Nat) (hp : zH) (va : Nat → Nat → Int32) (vf : Nat → Int32) : zmod D o hp va vf o = some (.inr (ciM, zmo D o vf)) := if_pos rfl
theorem zmA_at (D : zD) (o : Nat) (hp : zH) (va : Nat → Nat → Int32) {j : Nat} : ∀ k, j < k → k ≤ 9 → zmA D o hp va (zad D o j) k = some (.inl (D.2 (zkd j), zln j, .inl (va j))) := by
  intro k
  induction k with
  | zero => intro h; omega
  | succ k ih =>
    intro h h9
    rw [zmA]
    by_cases e : j = k
    · subst e
      rw [if_pos rfl]
    · rw [if_neg (fun q => e (zad_inj (by omega) (by omega) q))]
      exact ih (by omega) (by omega)
theorem zmod_a (D : zD) (o : Nat) (hp : zH) (va : Nat → Nat → Int32) (vf : Nat → Int32) {j : Nat} (hj : j < 9) : zmod D o hp va vf (zad D o j) = some (.inl (D.2 (zkd j), zln j, .inl (va j))) := by
  unfold zmod
  rw [if_neg (zad_ne hj)]
  exact zmA_at D o hp va 9 hj (Nat.le_refl 9)
theorem zmod_setO (D : zD) (o : Nat) (hp : zH) (va : Nat → Nat → Int32) (vf vf' : Nat → Int32) : zset (zmod D o hp va vf) o (.inr (ciM, zmo D o vf')) = zmod D o hp va vf' := by
  funext q
  unfold zset zmod
  by_cases h : q = o
  · rw [if_pos h, if_pos h]
  · rw [if_neg h, if_neg h, if_neg h]
theorem zmA_up (D : zD) (o : Nat) (hp : zH) (va : Nat → Nat → Int32) (g : Nat → Int32) {q j : Nat} (hq : q ≠ zad D o j) : ∀ k, zmA D o hp (va_up va j g) q k = zmA D o hp va q k := by
  intro k
  induction k with
  | zero => rfl
  | succ k ih =>
    rw [zmA, zmA, ih]
    by_cases e : q = zad D o k
    · have hk : k ≠ j := fun e2 => hq (e2 ▸ e)
      rw [if_pos e, if_pos e]
      unfold va_up
      rw [if_neg hk]
    · rw [if_neg e, if_neg e]
theorem zmod_setA (D : zD) (o : Nat) (hp : zH) (va : Nat → Nat → Int32) (vf : Nat → Int32) {j : Nat} (hj : j < 9) (g : Nat → Int32) : zset (zmod D o hp va vf) (zad D o j) (.inl (D.2 (zkd j), zln j, .inl g)) = zmod D o hp (va_up va j g) vf := by
  funext q
  by_cases h : q = zad D o j
  · subst h
    rw [zset_self, zmod_a D o hp (va_up va j g) vf hj]
    unfold va_up
    rw [if_pos rfl]
  · rw [zset_ne h]
    unfold zmod
    by_cases h2 : q = o
    · rw [if_pos h2, if_pos h2]
    · rw [if_neg h2, if_neg h2, zmA_up D o hp va g h]
theorem zmo_set (D : zD) (o : Nat) (vf : Nat → Int32) (k : Nat) (x : Int32) (h : 9 ≤ k) (h2 : k < 17) : (zmo D o vf).set k (.int x) = zmo D o (upd vf k x) := by
  rcases (show k = 9 ∨ k = 10 ∨ k = 11 ∨ k = 12 ∨ k = 13 ∨ k = 14 ∨ k = 15 ∨ k = 16 by omega) with rfl | rfl | rfl | rfl | rfl | rfl | rfl | rfl <;> rfl
section ZMD
variable {l : Launch} {D : zD} {M : zM} {mc ms : Nat} {Q : Option Value → zH → Prop} {hp : zH} {cu su pc o : Nat} {lv : List (Option Value)} {rest : List Value} {va : Nat → Nat → Int32} {vf : Nat → Int32}
theorem zm_getA {index : Nat} {t : FieldType} (j : Nat) (hd : decode M.2.1 pc = .ok (.getfield index, 3)) (pc' : Nat) (he : pc + 3 = pc') (hF : zFld M.1.cls index ciM j t) (hv : (zmo D o vf)[j]? = some (.ref (zad D o j))) (kk : Z l D M mc ms Q (zmod D o hp va vf) cu su pc' lv (.ref (zad D o j) :: rest)) : Z l D M mc ms Q (zmod D o hp va vf) cu su pc lv (.ref o :: rest) :=
  z_get hd pc' he hF (zmod_o D o hp va vf) hv kk
theorem zm_getF {index : Nat} {t : FieldType} (k : Nat) (hd : decode M.2.1 pc = .ok (.getfield index, 3)) (pc' : Nat) (he : pc + 3 = pc') (hF : zFld M.1.cls index ciM k t) (hv : (zmo D o vf)[k]? = some (.int (vf k))) (kk : Z l D M mc ms Q (zmod D o hp va vf) cu su pc' lv (.int (vf k) :: rest)) : Z l D M mc ms Q (zmod D o hp va vf) cu su pc lv (.ref o :: rest) :=
  z_get hd pc' he hF (zmod_o D o hp va vf) hv kk
theorem zm_putF {index : Nat} {x : Int32} (k : Nat) (hd : decode M.2.1 pc = .ok (.putfield index, 3)) (pc' : Nat) (he : pc + 3 = pc') (hF : zFldP M.1.cls M.1.name index ciM k .int) (h : 9 ≤ k) (h2 : k < 17) (kk : Z l D M mc ms Q (zmod D o hp va (upd vf k x)) cu su pc' lv rest) : Z l D M mc ms Q (zmod D o hp va vf) cu su pc lv (.int x :: .ref o :: rest) :=
  z_put hd pc' he hF (zmod_o D o hp va vf) rfl rfl (show k < 17 from h2) (zmo_set D o vf k x h h2) (by rw [zmod_setO]; exact kk)
theorem zm_putZ {index : Nat} {x : Int32} (k : Nat) (hd : decode M.2.1 pc = .ok (.putfield index, 3)) (pc' : Nat) (he : pc + 3 = pc') (hF : zFldP M.1.cls M.1.name index ciM k .boolean) (h : 9 ≤ k) (h2 : k < 17) (hx : x = 0 ∨ x = 1) (kk : Z l D M mc ms Q (zmod D o hp va (upd vf k x)) cu su pc' lv rest) : Z l D M mc ms Q (zmod D o hp va vf) cu su pc lv (.int x :: .ref o :: rest) :=
  z_put hd pc' he hF (zmod_o D o hp va vf) (by rcases hx with rfl | rfl <;> decide) (by rcases hx with rfl | rfl <;> decide) (show k < 17 from h2) (zmo_set D o vf k x h h2) (by rw [zmod_setO]; exact kk)
theorem zln_lt (j : Nat) : zln j < 2 ^ 31 := by
  unfold zln
  split <;> decide
theorem zm_iald {j n : Nat} (hd : decode M.2.1 pc = .ok (.iaload, 1)) (pc' : Nat) (he : pc + 1 = pc') (hj : j < 9) (hk : zkd j = 1) (hn : n < zln j) (kk : Z l D M mc ms Q (zmod D o hp va vf) cu su pc' lv (.int (va j n) :: rest)) : Z l D M mc ms Q (zmod D o hp va vf) cu su pc lv (.int (nI n) :: .ref (zad D o j) :: rest) := by
  subst he
  have h9 := zln_lt j
  refine z_iald hd _ rfl (by rw [zmod_a D o hp va vf hj, hk]) (vp_in_nI hn h9) ?_
  rw [nI_clamp (by omega)]
  exact kk
theorem zm_bald {n : Nat} (hd : decode M.2.1 pc = .ok (.baload, 1)) (pc' : Nat) (he : pc + 1 = pc') (hn : n < 15840) (kk : Z l D M mc ms Q (zmod D o hp va vf) cu su pc' lv (.int (va 0 n) :: rest)) : Z l D M mc ms Q (zmod D o hp va vf) cu su pc lv (.int (nI n) :: .ref (zad D o 0) :: rest) := by
  subst he
  refine z_bald hd _ rfl (zmod_a D o hp va vf (by decide)) (vp_in_nI hn (by decide)) ?_
  rw [nI_clamp (by omega)]
  exact kk
theorem zm_iast {j n : Nat} {x : Int32} (hd : decode M.2.1 pc = .ok (.iastore, 1)) (pc' : Nat) (he : pc + 1 = pc') (hj : j < 9) (hk : zkd j = 1) (hn : n < zln j) (kk : Z l D M mc ms Q (zmod D o hp (va_up va j (upd (va j) n x)) vf) cu su pc' lv rest) : Z l D M mc ms Q (zmod D o hp va vf) cu su pc lv (.int x :: .int (nI n) :: .ref (zad D o j) :: rest) := by
  subst he
  have h9 := zln_lt j
  refine z_iast hd _ rfl (by rw [zmod_a D o hp va vf hj, hk]) (vp_in_nI hn h9) ?_
  have e := zmod_setA D o hp va vf hj (upd (va j) n x)
  rw [hk] at e
  rw [nI_clamp (by omega), e]
  exact kk
theorem zm_bast {n : Nat} {x : Int32} (hd : decode M.2.1 pc = .ok (.bastore, 1)) (pc' : Nat) (he : pc + 1 = pc') (hn : n < 15840) (kk : Z l D M mc ms Q (zmod D o hp (va_up va 0 (upd (va 0) n (vp_nar .byte x))) vf) cu su pc' lv rest) : Z l D M mc ms Q (zmod D o hp va vf) cu su pc lv (.int x :: .int (nI n) :: .ref (zad D o 0) :: rest) := by
  subst he
  refine z_bast hd _ rfl (zmod_a D o hp va vf (by decide)) (vp_in_nI hn (by decide)) ?_
  rw [nI_clamp (by omega)]
  have e : zset (zmod D o hp va vf) (zad D o 0) (.inl (D.2 0, zln 0, .inl (upd (va 0) n (vp_nar .byte x)))) = zmod D o hp (va_up va 0 (upd (va 0) n (vp_nar .byte x))) vf := zmod_setA D o hp va vf (j := 0) (by decide) (upd (va 0) n (vp_nar .byte x))
  rw [e]
  exact kk
theorem zm_cV1 {index n : Nat} {M' : zM} {as st : List Value} {v : Value} {va' : Nat → Nat → Int32} {vf' : Nat → Int32} (hd : decode M.2.1 pc = .ok (.invokevirtual index, 3)) (pc' : Nat) (he : pc + 3 = pc') (hM : zMV M' n ciM) (hl : zLk M.1.cls M'.1 index) (hR : zRm M M') (hr : ∀ Q' : Option Value → zH → Prop, Q' (some v) (zmod D o hp va' vf') → Runs l D M' (.ref o :: as) (zmod D o hp va vf) 0 0 Q') (hn : as.length = n) (hs : st = as.reverse ++ .ref o :: rest) (hrest : (rest.map fun v => v.category).sum ≤ 8)
    (kk : Z l D M 0 0 Q (zmod D o hp va' vf') 0 0 pc' lv (v :: rest)) : Z l D M 0 0 Q (zmod D o hp va vf) 0 0 pc lv st :=
  z_cV1 hd pc' he hM hl hR 0 0 rfl rfl (Nat.le_refl 0) (Nat.le_refl 0) (zmod_o D o hp va vf) hr hn hs hrest kk
theorem zm_cV0 {index n : Nat} {M' : zM} {as st : List Value} {va' : Nat → Nat → Int32} {vf' : Nat → Int32} (hd : decode M.2.1 pc = .ok (.invokevirtual index, 3)) (pc' : Nat) (he : pc + 3 = pc') (hM : zMV M' n ciM) (hl : zLk M.1.cls M'.1 index) (hR : zRm M M') (hr : ∀ Q' : Option Value → zH → Prop, Q' none (zmod D o hp va' vf') → Runs l D M' (.ref o :: as) (zmod D o hp va vf) 0 0 Q') (hn : as.length = n) (hs : st = as.reverse ++ .ref o :: rest) (hrest : (rest.map fun v => v.category).sum ≤ 8)
    (kk : Z l D M 0 0 Q (zmod D o hp va' vf') 0 0 pc' lv rest) : Z l D M 0 0 Q (zmod D o hp va vf) 0 0 pc lv st :=
  z_cV0 hd pc' he hM hl hR 0 0 rfl rfl (Nat.le_refl 0) (Nat.le_refl 0) (zmod_o D o hp va vf) hr hn hs hrest kk
/-- a call whose end is one of many: P says which -/
theorem zm_cV {index n : Nat} {M' : zM} {as st : List Value} (P : Value → (Nat → Nat → Int32) → (Nat → Int32) → Prop) (hd : decode M.2.1 pc = .ok (.invokevirtual index, 3)) (pc' : Nat) (he : pc + 3 = pc') (hM : zMV M' n ciM) (hl : zLk M.1.cls M'.1 index) (hR : zRm M M') (hr : ∀ Q' : Option Value → zH → Prop, (∀ v va' vf', P v va' vf' → Q' (some v) (zmod D o hp va' vf')) → Runs l D M' (.ref o :: as) (zmod D o hp va vf) 0 0 Q') (hn : as.length = n) (hs : st = as.reverse ++ .ref o :: rest) (hrest : (rest.map fun v => v.category).sum ≤ 8)
    (kk : ∀ v va' vf', P v va' vf' → Z l D M 0 0 Q (zmod D o hp va' vf') 0 0 pc' lv (v :: rest)) : Z l D M 0 0 Q (zmod D o hp va vf) 0 0 pc lv st := by
  refine z_cV (Q' := fun r h => ∃ v va' vf', P v va' vf' ∧ r = some v ∧ h = zmod D o hp va' vf') hd pc' he hM hl hR 0 0 rfl rfl (Nat.le_refl 0) (Nat.le_refl 0) (zmod_o D o hp va vf) (hr _ (fun v va' vf' h => ⟨v, va', vf', h, rfl, rfl⟩)) hn hs hrest ?_
  rintro r h ⟨v, va', vf', hP, rfl, rfl⟩
  exact kk v va' vf' hP
theorem zm_cVv {index n : Nat} {M' : zM} {as st : List Value} (P : (Nat → Nat → Int32) → (Nat → Int32) → Prop) (hd : decode M.2.1 pc = .ok (.invokevirtual index, 3)) (pc' : Nat) (he : pc + 3 = pc') (hM : zMV M' n ciM) (hl : zLk M.1.cls M'.1 index) (hR : zRm M M') (hr : ∀ Q' : Option Value → zH → Prop, (∀ va' vf', P va' vf' → Q' none (zmod D o hp va' vf')) → Runs l D M' (.ref o :: as) (zmod D o hp va vf) 0 0 Q') (hn : as.length = n) (hs : st = as.reverse ++ .ref o :: rest) (hrest : (rest.map fun v => v.category).sum ≤ 8)
    (kk : ∀ va' vf', P va' vf' → Z l D M 0 0 Q (zmod D o hp va' vf') 0 0 pc' lv rest) : Z l D M 0 0 Q (zmod D o hp va vf) 0 0 pc lv st := by
  refine z_cV (Q' := fun r h => ∃ va' vf', P va' vf' ∧ r = none ∧ h = zmod D o hp va' vf') hd pc' he hM hl hR 0 0 rfl rfl (Nat.le_refl 0) (Nat.le_refl 0) (zmod_o D o hp va vf) (hr _ (fun va' vf' h => ⟨va', vf', h, rfl, rfl⟩)) hn hs hrest ?_
  rintro r h ⟨va', vf', hP, rfl, rfl⟩
  exact kk va' vf' hP
theorem zm_cS1 {index n : Nat} {M' : zM} {as st : List Value} {v : Value} (hd : decode M.2.1 pc = .ok (.invokestatic index, 3)) (pc' : Nat) (he : pc + 3 = pc') (hM : zMS M' n) (hl : zLk M.1.cls M'.1 index) (hR : zRm M M') (hr : ∀ Q' : Option Value → zH → Prop, Q' (some v) hp → Runs l D M' as hp 0 0 Q') (hn : as.length = n) (hs : st = as.reverse ++ rest) (hrest : (rest.map fun v => v.category).sum ≤ 8)
    (kk : Z l D M 0 0 Q hp 0 0 pc' lv (v :: rest)) : Z l D M 0 0 Q hp 0 0 pc lv st :=
  z_cS1 hd pc' he hM hl hR 0 0 rfl rfl (Nat.le_refl 0) (Nat.le_refl 0) hr hn hs hrest kk
end ZMD
end
section
/-! The methods. Own work. -/
def M_B_init : zM := (⟨"ArtifactBags", "<init>", "()V"⟩, prog_1_method_1_code, 1, none, 3, 60)
def M_G_init : zM := (⟨"ArtifactBags$Bag", "<init>", "()V"⟩, prog_3_method_1_code, 1, none, 2, 40)
def M_H_init : zM := (⟨"ArtifactBags$History", "<init>", "()V"⟩, prog_5_method_1_code, 1, none, 1, 20)
def M_N_init : zM := (⟨"ArtifactBags$NameSet", "<init>", "()V"⟩, prog_6_method_1_code, 1, none, 1, 20)
def M_R_init : zM := (⟨"ArtifactBags$Row", "<init>", "()V"⟩, prog_7_method_1_code, 1, none, 1, 20)
def M_B_card : zM := (⟨"ArtifactBags", "card", "(III)I"⟩, prog_1_method_2_code, 4, some .int, 4, 88)
def M_B_isWritable : zM := (⟨"ArtifactBags", "isWritable", "(III)Z"⟩, prog_1_method_25_code, 3, some .boolean, 1, 20)
def M_B_isDigit : zM := (⟨"ArtifactBags", "isDigit", "(I)Z"⟩, prog_1_method_24_code, 1, some .boolean, 0, 0)
def M_B_isName : zM := (⟨"ArtifactBags", "isName", "(I)Z"⟩, prog_1_method_23_code, 1, some .boolean, 0, 0)
def M_R_clear : zM := (⟨"ArtifactBags$Row", "clear", "()V"⟩, prog_7_method_2_code, 1, none, 0, 0)
def M_B_writeCard : zM := (⟨"ArtifactBags", "writeCard", "(III)V"⟩, prog_1_method_26_code, 4, none, 3, 65)
def M_R_addTimeCard : zM := (⟨"ArtifactBags$Row", "addTimeCard", "(I)V"⟩, prog_7_method_7_code, 3, none, 1, 21)
def M_R_add : zM := (⟨"ArtifactBags$Row", "add", "(I)V"⟩, prog_7_method_5_code, 2, none, 0, 0)
def M_R_addFileCard : zM := (⟨"ArtifactBags$Row", "addFileCard", "(II)V"⟩, prog_7_method_8_code, 3, none, 2, 43)
def M_R_addSpaceAndName : zM := (⟨"ArtifactBags$Row", "addSpaceAndName", "(I)V"⟩, prog_7_method_12_code, 3, none, 1, 21)
def M_R_addNameCard : zM := (⟨"ArtifactBags$Row", "addNameCard", "(II)V"⟩, prog_7_method_9_code, 3, none, 2, 43)
def M_R_addParentCard : zM := (⟨"ArtifactBags$Row", "addParentCard", "(II)V"⟩, prog_7_method_10_code, 3, none, 2, 43)
def M_R_addTagCard : zM := (⟨"ArtifactBags$Row", "addTagCard", "(II)V"⟩, prog_7_method_11_code, 3, none, 2, 43)
def M_R_digest : zM := (⟨"ArtifactBags$Row", "digest", "()I"⟩, prog_7_method_4_code, 1, some .int, 1, 25)
def M_B_digestAfter : zM := (⟨"ArtifactBags", "digestAfter", "(I[BI)I"⟩, prog_1_method_27_code, 6, some .int, 0, 0)
def M_R_hasRoomFor : zM := (⟨"ArtifactBags$Row", "hasRoomFor", "(I)Z"⟩, prog_7_method_3_code, 2, some .boolean, 0, 0)
def M_R_addRow : zM := (⟨"ArtifactBags$Row", "addRow", "(LArtifactBags$Row;)V"⟩, prog_7_method_6_code, 3, none, 1, 21)
def M_B_raw : zM := (⟨"ArtifactBags", "raw", "(JI)I"⟩, prog_1_method_3_code, 5, some .int, 1, 21)
def M_B_drop : zM := (⟨"ArtifactBags", "drop", "()I"⟩, prog_1_method_4_code, 2, some .int, 1, 20)
def M_B_files : zM := (⟨"ArtifactBags", "files", "(I)I"⟩, prog_1_method_5_code, 6, some .int, 4, 93)
def M_B_bagOf : zM := (⟨"ArtifactBags", "bagOf", "(I)LArtifactBags$Bag;"⟩, prog_1_method_21_code, 2, some (.object "ArtifactBags$Bag"), 0, 0)
def M_C_read : zM := (⟨"ArtifactBags$Card", "read", "([BII)LArtifactBags$Card;"⟩, prog_4_method_2_code, 4, some (.object "ArtifactBags$Card"), 3, 70)
def M_C_readTime : zM := (⟨"ArtifactBags$Card", "readTime", "([BII)LArtifactBags$Card;"⟩, prog_4_method_3_code, 6, some (.object "ArtifactBags$Card"), 2, 45)
def M_C_init : zM := (⟨"ArtifactBags$Card", "<init>", "(IIZII)V"⟩, prog_4_method_1_code, 6, none, 1, 20)
def M_C_readFile : zM := (⟨"ArtifactBags$Card", "readFile", "([BII)LArtifactBags$Card;"⟩, prog_4_method_4_code, 5, some (.object "ArtifactBags$Card"), 2, 45)
def M_C_readName : zM := (⟨"ArtifactBags$Card", "readName", "([BI)I"⟩, prog_4_method_8_code, 5, some .int, 0, 0)
def M_C_readOneName : zM := (⟨"ArtifactBags$Card", "readOneName", "(I[BII)LArtifactBags$Card;"⟩, prog_4_method_5_code, 5, some (.object "ArtifactBags$Card"), 2, 45)
def M_C_readTwoParents : zM := (⟨"ArtifactBags$Card", "readTwoParents", "([BII)LArtifactBags$Card;"⟩, prog_4_method_6_code, 5, some (.object "ArtifactBags$Card"), 2, 45)
def M_C_readTag : zM := (⟨"ArtifactBags$Card", "readTag", "([BII)LArtifactBags$Card;"⟩, prog_4_method_7_code, 6, some (.object "ArtifactBags$Card"), 2, 45)
def M_G_digestWithFile : zM := (⟨"ArtifactBags$Bag", "digestWithFile", "(ILArtifactBags$Card;)I"⟩, prog_3_method_11_code, 4, some .int, 1, 25)
def M_G_find : zM := (⟨"ArtifactBags$Bag", "find", "(I)LArtifactBags$Artifact;"⟩, prog_3_method_4_code, 3, some (.object "ArtifactBags$Artifact"), 0, 0)
def M_B_put : zM := (⟨"ArtifactBags", "put", "(I)I"⟩, prog_1_method_6_code, 4, some .int, 6, 200)
def M_G_holds : zM := (⟨"ArtifactBags$Bag", "holds", "(I)Z"⟩, prog_3_method_3_code, 2, some .boolean, 1, 22)
def M_G_isFull : zM := (⟨"ArtifactBags$Bag", "isFull", "()Z"⟩, prog_3_method_2_code, 1, some .boolean, 0, 0)
def M_A_of : zM := (⟨"ArtifactBags$Artifact", "of", "(LArtifactBags$Row;)LArtifactBags$Artifact;"⟩, prog_2_method_2_code, 4, some (.object "ArtifactBags$Artifact"), 5, 117)
def M_J_copyOf_b : zM := (⟨"java/util/Arrays", "copyOf", "([BI)[B"⟩, prog_13_method_121_code, 3, some (.array .byte), 1, 90)
def M_K_min : zM := (⟨"java/lang/Math", "min", "(II)I"⟩, prog_11_method_69_code, 2, some .int, 0, 0)
def M_A_readLines : zM := (⟨"ArtifactBags$Artifact", "readLines", "([B)[LArtifactBags$Card;"⟩, prog_2_method_3_code, 5, some (.array (.object "ArtifactBags$Card")), 4, 93)
def M_A_countLines : zM := (⟨"ArtifactBags$Artifact", "countLines", "([B)I"⟩, prog_2_method_4_code, 3, some .int, 0, 0)
def M_A_isWellFormed : zM := (⟨"ArtifactBags$Artifact", "isWellFormed", "([B[LArtifactBags$Card;)Z"⟩, prog_2_method_5_code, 4, some .boolean, 1, 25)
def M_C_mayFollow : zM := (⟨"ArtifactBags$Card", "mayFollow", "(LArtifactBags$Card;)Z"⟩, prog_4_method_9_code, 2, some .boolean, 0, 0)
def M_A_sortOf : zM := (⟨"ArtifactBags$Artifact", "sortOf", "([LArtifactBags$Card;)I"⟩, prog_2_method_6_code, 6, some .int, 1, 23)
def M_A_countOf : zM := (⟨"ArtifactBags$Artifact", "countOf", "(I[LArtifactBags$Card;)I"⟩, prog_2_method_7_code, 4, some .int, 0, 0)
def M_A_countStarred : zM := (⟨"ArtifactBags$Artifact", "countStarred", "([LArtifactBags$Card;)I"⟩, prog_2_method_8_code, 3, some .int, 0, 0)
def M_A_init : zM := (⟨"ArtifactBags$Artifact", "<init>", "([BI[LArtifactBags$Card;)V"⟩, prog_2_method_1_code, 4, none, 1, 25)
def M_A_numberOf : zM := (⟨"ArtifactBags$Artifact", "numberOf", "(I[LArtifactBags$Card;)I"⟩, prog_2_method_9_code, 3, some .int, 0, 0)
def M_G_take : zM := (⟨"ArtifactBags$Bag", "take", "(LArtifactBags$Artifact;)V"⟩, prog_3_method_5_code, 3, none, 5, 178)
def M_G_insert : zM := (⟨"ArtifactBags$Bag", "insert", "(LArtifactBags$Artifact;)V"⟩, prog_3_method_6_code, 3, none, 0, 0)
def M_N_remove : zM := (⟨"ArtifactBags$NameSet", "remove", "(I)V"⟩, prog_6_method_5_code, 3, none, 1, 60)
def M_N_placeOf : zM := (⟨"ArtifactBags$NameSet", "placeOf", "(I)I"⟩, prog_6_method_7_code, 4, some .int, 0, 0)
def M_G_noteNamesOf : zM := (⟨"ArtifactBags$Bag", "noteNamesOf", "(LArtifactBags$Artifact;)V"⟩, prog_3_method_8_code, 4, none, 4, 155)
def M_C_namesWhatIsNeeded : zM := (⟨"ArtifactBags$Card", "namesWhatIsNeeded", "()Z"⟩, prog_4_method_10_code, 1, some .boolean, 0, 0)
def M_G_want : zM := (⟨"ArtifactBags$Bag", "want", "(I)V"⟩, prog_3_method_9_code, 2, none, 3, 134)
def M_N_add : zM := (⟨"ArtifactBags$NameSet", "add", "(I)V"⟩, prog_6_method_4_code, 3, none, 2, 112)
def M_J_copyOf_i : zM := (⟨"java/util/Arrays", "copyOf", "([II)[I"⟩, prog_13_method_123_code, 3, some (.array .int), 1, 90)
def M_A_namesFile : zM := (⟨"ArtifactBags$Artifact", "namesFile", "(I)Z"⟩, prog_2_method_10_code, 3, some .boolean, 0, 0)
def M_G_noteIfCheckIn : zM := (⟨"ArtifactBags$Bag", "noteIfCheckIn", "(LArtifactBags$Artifact;)V"⟩, prog_3_method_10_code, 4, none, 2, 48)
def M_H_add : zM := (⟨"ArtifactBags$History", "add", "(LArtifactBags$Artifact;)V"⟩, prog_5_method_3_code, 3, none, 1, 21)
def M_A_isEarlierThan : zM := (⟨"ArtifactBags$Artifact", "isEarlierThan", "(LArtifactBags$Artifact;)Z"⟩, prog_2_method_13_code, 2, some .boolean, 0, 0)
def M_B_round : zM := (⟨"ArtifactBags", "round", "(I)I"⟩, prog_1_method_7_code, 3, some .int, 7, 226)
def M_G_gatherCluster : zM := (⟨"ArtifactBags$Bag", "gatherCluster", "(LArtifactBags$Row;)V"⟩, prog_3_method_15_code, 4, none, 6, 200)
def M_G_countLoose : zM := (⟨"ArtifactBags$Bag", "countLoose", "()I"⟩, prog_3_method_13_code, 3, some .int, 3, 66)
def M_G_isLoose : zM := (⟨"ArtifactBags$Bag", "isLoose", "(LArtifactBags$Artifact;)Z"⟩, prog_3_method_12_code, 2, some .boolean, 2, 45)
def M_N_contains : zM := (⟨"ArtifactBags$NameSet", "contains", "(I)Z"⟩, prog_6_method_3_code, 3, some .boolean, 1, 23)
def M_G_sendTo : zM := (⟨"ArtifactBags$Bag", "sendTo", "(LArtifactBags$Bag;I)I"⟩, prog_3_method_16_code, 7, some .int, 6, 200)
def M_N_copyFrom : zM := (⟨"ArtifactBags$NameSet", "copyFrom", "(LArtifactBags$NameSet;)V"⟩, prog_6_method_6_code, 2, none, 1, 60)
def M_B_held : zM := (⟨"ArtifactBags", "held", "(I)I"⟩, prog_1_method_8_code, 3, some .int, 1, 21)
def M_B_name : zM := (⟨"ArtifactBags", "name", "(II)I"⟩, prog_1_method_9_code, 4, some .int, 1, 21)
def M_B_octet : zM := (⟨"ArtifactBags", "octet", "(III)I"⟩, prog_1_method_10_code, 5, some .int, 2, 45)
def M_B_artifactOf : zM := (⟨"ArtifactBags", "artifactOf", "(II)LArtifactBags$Artifact;"⟩, prog_1_method_22_code, 4, some (.object "ArtifactBags$Artifact"), 1, 22)
def M_B_kind : zM := (⟨"ArtifactBags", "kind", "(II)I"⟩, prog_1_method_11_code, 4, some .int, 2, 45)
def M_B_wanted : zM := (⟨"ArtifactBags", "wanted", "(I)I"⟩, prog_1_method_12_code, 3, some .int, 1, 21)
def M_B_wants : zM := (⟨"ArtifactBags", "wants", "(II)Z"⟩, prog_1_method_13_code, 4, some .boolean, 2, 45)
def M_B_checkIns : zM := (⟨"ArtifactBags", "checkIns", "(I)I"⟩, prog_1_method_14_code, 3, some .int, 1, 21)
def M_B_timeline : zM := (⟨"ArtifactBags", "timeline", "(II)I"⟩, prog_1_method_15_code, 4, some .int, 1, 21)
def M_H_nameAt : zM := (⟨"ArtifactBags$History", "nameAt", "(I)I"⟩, prog_5_method_4_code, 2, some .int, 0, 0)
def M_B_children : zM := (⟨"ArtifactBags", "children", "(II)I"⟩, prog_1_method_16_code, 4, some .int, 2, 45)
def M_H_countChildren : zM := (⟨"ArtifactBags$History", "countChildren", "(I)I"⟩, prog_5_method_5_code, 4, some .int, 1, 22)
def M_A_namesParent : zM := (⟨"ArtifactBags$Artifact", "namesParent", "(I)Z"⟩, prog_2_method_11_code, 3, some .boolean, 0, 0)
def M_B_leaves : zM := (⟨"ArtifactBags", "leaves", "(I)I"⟩, prog_1_method_17_code, 3, some .int, 3, 67)
def M_H_countLeaves : zM := (⟨"ArtifactBags$History", "countLeaves", "()I"⟩, prog_5_method_6_code, 3, some .int, 2, 45)
def M_B_tag : zM := (⟨"ArtifactBags", "tag", "(III)I"⟩, prog_1_method_18_code, 5, some .int, 2, 50)
def M_G_tagOf : zM := (⟨"ArtifactBags$Bag", "tagOf", "(II)I"⟩, prog_3_method_14_code, 7, some .int, 1, 24)
def M_A_tagCardFor : zM := (⟨"ArtifactBags$Artifact", "tagCardFor", "(II)LArtifactBags$Card;"⟩, prog_2_method_12_code, 5, some (.object "ArtifactBags$Card"), 0, 0)
def M_B_loose : zM := (⟨"ArtifactBags", "loose", "(I)I"⟩, prog_1_method_19_code, 3, some .int, 4, 88)
def M_B_rebuild : zM := (⟨"ArtifactBags", "rebuild", "(I)I"⟩, prog_1_method_20_code, 3, some .int, 6, 199)
def M_G_deriveAnew : zM := (⟨"ArtifactBags$Bag", "deriveAnew", "()V"⟩, prog_3_method_7_code, 2, none, 5, 178)
def M_H_clear : zM := (⟨"ArtifactBags$History", "clear", "()V"⟩, prog_5_method_2_code, 1, none, 0, 0)
def M_N_clear : zM := (⟨"ArtifactBags$NameSet", "clear", "()V"⟩, prog_6_method_2_code, 1, none, 0, 0)
def M_m_init : zM := (⟨"ArtifactBagsModel", "<init>", "()V"⟩, prog_9_method_1_code, 1, none, 1, 20)
def M_m_card : zM := (⟨"ArtifactBagsModel", "card", "(III)I"⟩, prog_9_method_23_code, 7, some .int, 2, 48)
def M_m_size : zM := (⟨"ArtifactBagsModel", "size", "(III)I"⟩, prog_9_method_21_code, 3, some .int, 1, 20)
def M_m_isName : zM := (⟨"ArtifactBagsModel", "isName", "(I)Z"⟩, prog_9_method_4_code, 1, some .boolean, 0, 0)
def M_m_digest : zM := (⟨"ArtifactBagsModel", "digest", "(III)I"⟩, prog_9_method_3_code, 7, some .int, 1, 22)
def M_m_at : zM := (⟨"ArtifactBagsModel", "at", "(II)I"⟩, prog_9_method_2_code, 3, some .int, 0, 0)
def M_m_letterOf : zM := (⟨"ArtifactBagsModel", "letterOf", "(I)I"⟩, prog_9_method_22_code, 1, some .int, 0, 0)
def M_m_write : zM := (⟨"ArtifactBagsModel", "write", "(II)V"⟩, prog_9_method_19_code, 3, none, 0, 0)
def M_m_writeName : zM := (⟨"ArtifactBagsModel", "writeName", "(II)V"⟩, prog_9_method_20_code, 4, none, 1, 22)
def M_m_raw : zM := (⟨"ArtifactBagsModel", "raw", "(JI)I"⟩, prog_9_method_24_code, 5, some .int, 1, 22)
def M_m_drop : zM := (⟨"ArtifactBagsModel", "drop", "()I"⟩, prog_9_method_25_code, 2, some .int, 0, 0)
def M_m_files : zM := (⟨"ArtifactBagsModel", "files", "(I)I"⟩, prog_9_method_26_code, 2, some .int, 6, 144)
def M_m_isRepository : zM := (⟨"ArtifactBagsModel", "isRepository", "(I)Z"⟩, prog_9_method_14_code, 1, some .boolean, 0, 0)
def M_m_filesOf : zM := (⟨"ArtifactBagsModel", "filesOf", "(II)I"⟩, prog_9_method_16_code, 6, some .int, 5, 119)
def M_m_readLine : zM := (⟨"ArtifactBagsModel", "readLine", "(II)Z"⟩, prog_9_method_7_code, 5, some .boolean, 4, 95)
def M_m_isCard : zM := (⟨"ArtifactBagsModel", "isCard", "(III)Z"⟩, prog_9_method_8_code, 5, some .boolean, 3, 71)
def M_m_isNumber : zM := (⟨"ArtifactBagsModel", "isNumber", "(III)Z"⟩, prog_9_method_9_code, 6, some .boolean, 1, 22)
def M_m_isDigit : zM := (⟨"ArtifactBagsModel", "isDigit", "(I)Z"⟩, prog_9_method_5_code, 1, some .boolean, 0, 0)
def M_m_nameAt : zM := (⟨"ArtifactBagsModel", "nameAt", "(II)I"⟩, prog_9_method_6_code, 6, some .int, 1, 22)
def M_m_isParent : zM := (⟨"ArtifactBagsModel", "isParent", "(III)Z"⟩, prog_9_method_10_code, 4, some .boolean, 2, 47)
def M_m_isTag : zM := (⟨"ArtifactBagsModel", "isTag", "(III)Z"⟩, prog_9_method_11_code, 5, some .boolean, 2, 47)
def M_m_find : zM := (⟨"ArtifactBagsModel", "find", "(II)I"⟩, prog_9_method_15_code, 4, some .int, 0, 0)
def M_m_put : zM := (⟨"ArtifactBagsModel", "put", "(I)I"⟩, prog_9_method_28_code, 3, some .int, 2, 48)
def M_m_hold : zM := (⟨"ArtifactBagsModel", "hold", "(III)V"⟩, prog_9_method_27_code, 6, none, 1, 23)
def M_m_round : zM := (⟨"ArtifactBagsModel", "round", "(I)I"⟩, prog_9_method_37_code, 3, some .int, 9, 227)
def M_m_makeCluster : zM := (⟨"ArtifactBagsModel", "makeCluster", "(I)V"⟩, prog_9_method_34_code, 4, none, 8, 199)
def M_m_listLoose : zM := (⟨"ArtifactBagsModel", "listLoose", "(I)V"⟩, prog_9_method_31_code, 3, none, 7, 177)
def M_m_clustered : zM := (⟨"ArtifactBagsModel", "clustered", "(II)Z"⟩, prog_9_method_30_code, 5, some .boolean, 6, 153)
def M_m_sort : zM := (⟨"ArtifactBagsModel", "sort", "(I)I"⟩, prog_9_method_12_code, 15, some .int, 5, 119)
def M_m_has : zM := (⟨"ArtifactBagsModel", "has", "(III)Z"⟩, prog_9_method_17_code, 6, some .boolean, 5, 119)
def M_m_enlist : zM := (⟨"ArtifactBagsModel", "enlist", "(I)V"⟩, prog_9_method_29_code, 4, none, 0, 0)
def M_m_message : zM := (⟨"ArtifactBagsModel", "message", "(II)I"⟩, prog_9_method_35_code, 9, some .int, 8, 199)
def M_m_tell : zM := (⟨"ArtifactBagsModel", "tell", "(II)V"⟩, prog_9_method_36_code, 4, none, 1, 23)
def M_m_listWanted : zM := (⟨"ArtifactBagsModel", "listWanted", "(I)V"⟩, prog_9_method_33_code, 6, none, 6, 153)
def M_m_lack : zM := (⟨"ArtifactBagsModel", "lack", "(II)V"⟩, prog_9_method_32_code, 3, none, 1, 23)
def M_m_held : zM := (⟨"ArtifactBagsModel", "held", "(I)I"⟩, prog_9_method_38_code, 2, some .int, 1, 20)
def M_m_name : zM := (⟨"ArtifactBagsModel", "name", "(II)I"⟩, prog_9_method_39_code, 4, some .int, 1, 23)
def M_m_octet : zM := (⟨"ArtifactBagsModel", "octet", "(III)I"⟩, prog_9_method_40_code, 5, some .int, 1, 23)
def M_m_kind : zM := (⟨"ArtifactBagsModel", "kind", "(II)I"⟩, prog_9_method_41_code, 4, some .int, 6, 153)
def M_m_wanted : zM := (⟨"ArtifactBagsModel", "wanted", "(I)I"⟩, prog_9_method_42_code, 2, some .int, 7, 178)
def M_m_wants : zM := (⟨"ArtifactBagsModel", "wants", "(II)Z"⟩, prog_9_method_43_code, 5, some .boolean, 7, 178)
def M_m_checkIns : zM := (⟨"ArtifactBagsModel", "checkIns", "(I)I"⟩, prog_9_method_44_code, 4, some .int, 7, 176)
def M_m_isCheckIn : zM := (⟨"ArtifactBagsModel", "isCheckIn", "(II)Z"⟩, prog_9_method_18_code, 4, some .boolean, 6, 153)
def M_m_timeline : zM := (⟨"ArtifactBagsModel", "timeline", "(II)I"⟩, prog_9_method_45_code, 8, some .int, 7, 176)
def M_m_timeOf : zM := (⟨"ArtifactBagsModel", "timeOf", "(I)I"⟩, prog_9_method_13_code, 2, some .int, 5, 119)
def M_m_children : zM := (⟨"ArtifactBagsModel", "children", "(II)I"⟩, prog_9_method_46_code, 5, some .int, 7, 176)
def M_m_leaves : zM := (⟨"ArtifactBagsModel", "leaves", "(I)I"⟩, prog_9_method_47_code, 4, some .int, 8, 200)
def M_m_tag : zM := (⟨"ArtifactBagsModel", "tag", "(III)I"⟩, prog_9_method_49_code, 11, some .int, 6, 153)
def M_m_signOf : zM := (⟨"ArtifactBagsModel", "signOf", "(III)I"⟩, prog_9_method_48_code, 6, some .int, 5, 119)
def M_m_loose : zM := (⟨"ArtifactBagsModel", "loose", "(I)I"⟩, prog_9_method_50_code, 2, some .int, 8, 199)
def M_m_rebuild : zM := (⟨"ArtifactBagsModel", "rebuild", "(I)I"⟩, prog_9_method_51_code, 2, some .int, 8, 199)
end
section
/-! Facts of classes, fields, methods, links: by their places in the tables. Own work. -/
set_option maxRecDepth 100000 in
theorem zlay {C : String} {T : u_T} {N : Nat} (ps : List Nat) (h : u_ws C T N = ps.filterMap (fun i => tables_1[i]?)) (hg : (u_ws C T N).all goodWord = true) : ∀ w ∈ u_ws C T N, w ∈ zT := by
  intro w hw
  have h1 := List.all_eq_true.mp hg w hw
  rw [h] at hw
  obtain ⟨i, -, hi⟩ := List.mem_filterMap.mp hw
  exact zin i hi h1
set_option maxRecDepth 100000 in
theorem zc_m : zCl 0 "ArtifactBagsModel" zF_m 17 zt_m := ⟨rfl, zlay [564, 566, 568, 570, 572, 574, 576, 578, 580, 582, 584, 586, 588, 590, 592, 594, 596] (by decide +kernel) (by decide +kernel), (by decide +kernel), (by decide +kernel)⟩
set_option maxRecDepth 100000 in
theorem zc_B : zCl 1 "ArtifactBags" zF_B 4 zt_B := ⟨rfl, zlay [103, 105, 107, 109] (by decide +kernel) (by decide +kernel), (by decide +kernel), (by decide +kernel)⟩
set_option maxRecDepth 100000 in
theorem zc_A : zCl 2 "ArtifactBags$Artifact" zF_A 6 zt_A := ⟨rfl, zlay [339, 341, 343, 345, 347, 349] (by decide +kernel) (by decide +kernel), (by decide +kernel), (by decide +kernel)⟩
set_option maxRecDepth 100000 in
theorem zc_G : zCl 3 "ArtifactBags$Bag" zF_G 6 zt_G := ⟨rfl, zlay [68, 70, 72, 74, 76, 78] (by decide +kernel) (by decide +kernel), (by decide +kernel), (by decide +kernel)⟩
set_option maxRecDepth 100000 in
theorem zc_C : zCl 4 "ArtifactBags$Card" zF_C 5 zt_C := ⟨rfl, zlay [222, 224, 226, 228, 230] (by decide +kernel) (by decide +kernel), (by decide +kernel), (by decide +kernel)⟩
set_option maxRecDepth 100000 in
theorem zc_H : zCl 5 "ArtifactBags$History" zF_H 2 zt_H := ⟨rfl, zlay [38, 40] (by decide +kernel) (by decide +kernel), (by decide +kernel), (by decide +kernel)⟩
set_option maxRecDepth 100000 in
theorem zc_N : zCl 6 "ArtifactBags$NameSet" zF_N 2 zt_N := ⟨rfl, zlay [52, 54] (by decide +kernel) (by decide +kernel), (by decide +kernel), (by decide +kernel)⟩
set_option maxRecDepth 100000 in
theorem zc_R : zCl 7 "ArtifactBags$Row" zF_R 2 zt_R := ⟨rfl, zlay [93, 95] (by decide +kernel) (by decide +kernel), (by decide +kernel), (by decide +kernel)⟩
set_option maxRecDepth 100000 in
theorem f_B_10 : zFld "ArtifactBags" 10 1 0 (.object "ArtifactBags$Bag") := ⟨"ArtifactBags", zF_B, 4, zt_B, zc_B, by decide, rfl, Or.inl (zin 99 rfl rfl)⟩
set_option maxRecDepth 100000 in
theorem p_B_10 : zFldP "ArtifactBags" "<init>" 10 1 0 (.object "ArtifactBags$Bag") := ⟨"ArtifactBags", zF_B, 4, zt_B, zc_B, by decide, rfl, Or.inr ⟨rfl, rfl, rfl, zin 99 rfl rfl⟩⟩
set_option maxRecDepth 100000 in
theorem f_B_16 : zFld "ArtifactBags" 16 1 1 (.object "ArtifactBags$Bag") := ⟨"ArtifactBags", zF_B, 4, zt_B, zc_B, by decide, rfl, Or.inl (zin 100 rfl rfl)⟩
set_option maxRecDepth 100000 in
theorem p_B_16 : zFldP "ArtifactBags" "<init>" 16 1 1 (.object "ArtifactBags$Bag") := ⟨"ArtifactBags", zF_B, 4, zt_B, zc_B, by decide, rfl, Or.inr ⟨rfl, rfl, rfl, zin 100 rfl rfl⟩⟩
set_option maxRecDepth 100000 in
theorem f_B_22 : zFld "ArtifactBags" 22 1 2 (.object "ArtifactBags$Row") := ⟨"ArtifactBags", zF_B, 4, zt_B, zc_B, by decide, rfl, Or.inl (zin 101 rfl rfl)⟩
set_option maxRecDepth 100000 in
theorem p_B_22 : zFldP "ArtifactBags" "<init>" 22 1 2 (.object "ArtifactBags$Row") := ⟨"ArtifactBags", zF_B, 4, zt_B, zc_B, by decide, rfl, Or.inr ⟨rfl, rfl, rfl, zin 101 rfl rfl⟩⟩
set_option maxRecDepth 100000 in
theorem f_B_26 : zFld "ArtifactBags" 26 1 3 (.object "ArtifactBags$Row") := ⟨"ArtifactBags", zF_B, 4, zt_B, zc_B, by decide, rfl, Or.inl (zin 102 rfl rfl)⟩
set_option maxRecDepth 100000 in
theorem p_B_26 : zFldP "ArtifactBags" "<init>" 26 1 3 (.object "ArtifactBags$Row") := ⟨"ArtifactBags", zF_B, 4, zt_B, zc_B, by decide, rfl, Or.inr ⟨rfl, rfl, rfl, zin 102 rfl rfl⟩⟩
set_option maxRecDepth 100000 in
theorem f_B_40 : zFld "ArtifactBags" 40 7 1 (.int) := ⟨"ArtifactBags$Row", zF_R, 2, zt_R, zc_R, by decide, rfl, Or.inr ⟨"ArtifactBags", zinN 92 rfl rfl⟩⟩
set_option maxRecDepth 100000 in
theorem p_B_40 (nm : String) : zFldP "ArtifactBags" nm 40 7 1 (.int) := ⟨"ArtifactBags$Row", zF_R, 2, zt_R, zc_R, by decide, rfl, Or.inl ⟨rfl, Or.inr ⟨"ArtifactBags", zinN 92 rfl rfl⟩⟩⟩
set_option maxRecDepth 100000 in
theorem f_B_60 : zFld "ArtifactBags" 60 7 0 (.array .byte) := ⟨"ArtifactBags$Row", zF_R, 2, zt_R, zc_R, by decide, rfl, Or.inr ⟨"ArtifactBags", zinN 89 rfl rfl⟩⟩
set_option maxRecDepth 100000 in
theorem f_B_102 : zFld "ArtifactBags" 102 3 1 (.int) := ⟨"ArtifactBags$Bag", zF_G, 6, zt_G, zc_G, by decide, rfl, Or.inr ⟨"ArtifactBags", zinN 61 rfl rfl⟩⟩
set_option maxRecDepth 100000 in
theorem p_B_102 (nm : String) : zFldP "ArtifactBags" nm 102 3 1 (.int) := ⟨"ArtifactBags$Bag", zF_G, 6, zt_G, zc_G, by decide, rfl, Or.inl ⟨rfl, Or.inr ⟨"ArtifactBags", zinN 61 rfl rfl⟩⟩⟩
set_option maxRecDepth 100000 in
theorem f_B_105 : zFld "ArtifactBags" 105 3 0 (.array (.object "ArtifactBags$Artifact")) := ⟨"ArtifactBags$Bag", zF_G, 6, zt_G, zc_G, by decide, rfl, Or.inr ⟨"ArtifactBags", zinN 59 rfl rfl⟩⟩
set_option maxRecDepth 100000 in
theorem f_B_109 : zFld "ArtifactBags" 109 2 1 (.int) := ⟨"ArtifactBags$Artifact", zF_A, 6, zt_A, zc_A, by decide, rfl, Or.inr ⟨"ArtifactBags", zinN 329 rfl rfl⟩⟩
set_option maxRecDepth 100000 in
theorem f_B_116 : zFld "ArtifactBags" 116 2 0 (.array .byte) := ⟨"ArtifactBags$Artifact", zF_A, 6, zt_A, zc_A, by decide, rfl, Or.inr ⟨"ArtifactBags", zinN 324 rfl rfl⟩⟩
set_option maxRecDepth 100000 in
theorem f_B_117 : zFld "ArtifactBags" 117 2 2 (.int) := ⟨"ArtifactBags$Artifact", zF_A, 6, zt_A, zc_A, by decide, rfl, Or.inr ⟨"ArtifactBags", zinN 332 rfl rfl⟩⟩
set_option maxRecDepth 100000 in
theorem f_B_120 : zFld "ArtifactBags" 120 3 3 (.object "ArtifactBags$NameSet") := ⟨"ArtifactBags$Bag", zF_G, 6, zt_G, zc_G, by decide, rfl, Or.inr ⟨"ArtifactBags", zinN 65 rfl rfl⟩⟩
set_option maxRecDepth 100000 in
theorem f_B_124 : zFld "ArtifactBags" 124 6 1 (.int) := ⟨"ArtifactBags$NameSet", zF_N, 2, zt_N, zc_N, by decide, rfl, Or.inr ⟨"ArtifactBags", zinN 51 rfl rfl⟩⟩
set_option maxRecDepth 100000 in
theorem p_B_124 (nm : String) : zFldP "ArtifactBags" nm 124 6 1 (.int) := ⟨"ArtifactBags$NameSet", zF_N, 2, zt_N, zc_N, by decide, rfl, Or.inl ⟨rfl, Or.inr ⟨"ArtifactBags", zinN 51 rfl rfl⟩⟩⟩
set_option maxRecDepth 100000 in
theorem f_B_132 : zFld "ArtifactBags" 132 3 2 (.object "ArtifactBags$History") := ⟨"ArtifactBags$Bag", zF_G, 6, zt_G, zc_G, by decide, rfl, Or.inr ⟨"ArtifactBags", zinN 63 rfl rfl⟩⟩
set_option maxRecDepth 100000 in
theorem f_B_136 : zFld "ArtifactBags" 136 5 1 (.int) := ⟨"ArtifactBags$History", zF_H, 2, zt_H, zc_H, by decide, rfl, Or.inr ⟨"ArtifactBags", zinN 37 rfl rfl⟩⟩
set_option maxRecDepth 100000 in
theorem p_B_136 (nm : String) : zFldP "ArtifactBags" nm 136 5 1 (.int) := ⟨"ArtifactBags$History", zF_H, 2, zt_H, zc_H, by decide, rfl, Or.inl ⟨rfl, Or.inr ⟨"ArtifactBags", zinN 37 rfl rfl⟩⟩⟩
set_option maxRecDepth 100000 in
theorem f_A_9 : zFld "ArtifactBags$Artifact" 9 2 0 (.array .byte) := ⟨"ArtifactBags$Artifact", zF_A, 6, zt_A, zc_A, by decide, rfl, Or.inl (zin 323 rfl rfl)⟩
set_option maxRecDepth 100000 in
theorem p_A_9 : zFldP "ArtifactBags$Artifact" "<init>" 9 2 0 (.array .byte) := ⟨"ArtifactBags$Artifact", zF_A, 6, zt_A, zc_A, by decide, rfl, Or.inr ⟨rfl, rfl, rfl, zin 323 rfl rfl⟩⟩
set_option maxRecDepth 100000 in
theorem f_A_19 : zFld "ArtifactBags$Artifact" 19 2 1 (.int) := ⟨"ArtifactBags$Artifact", zF_A, 6, zt_A, zc_A, by decide, rfl, Or.inl (zin 326 rfl rfl)⟩
set_option maxRecDepth 100000 in
theorem p_A_19 : zFldP "ArtifactBags$Artifact" "<init>" 19 2 1 (.int) := ⟨"ArtifactBags$Artifact", zF_A, 6, zt_A, zc_A, by decide, rfl, Or.inr ⟨rfl, rfl, rfl, zin 326 rfl rfl⟩⟩
set_option maxRecDepth 100000 in
theorem f_A_23 : zFld "ArtifactBags$Artifact" 23 2 2 (.int) := ⟨"ArtifactBags$Artifact", zF_A, 6, zt_A, zc_A, by decide, rfl, Or.inl (zin 330 rfl rfl)⟩
set_option maxRecDepth 100000 in
theorem p_A_23 : zFldP "ArtifactBags$Artifact" "<init>" 23 2 2 (.int) := ⟨"ArtifactBags$Artifact", zF_A, 6, zt_A, zc_A, by decide, rfl, Or.inr ⟨rfl, rfl, rfl, zin 330 rfl rfl⟩⟩
set_option maxRecDepth 100000 in
theorem f_A_26 : zFld "ArtifactBags$Artifact" 26 2 3 (.array (.object "ArtifactBags$Card")) := ⟨"ArtifactBags$Artifact", zF_A, 6, zt_A, zc_A, by decide, rfl, Or.inl (zin 333 rfl rfl)⟩
set_option maxRecDepth 100000 in
theorem p_A_26 : zFldP "ArtifactBags$Artifact" "<init>" 26 2 3 (.array (.object "ArtifactBags$Card")) := ⟨"ArtifactBags$Artifact", zF_A, 6, zt_A, zc_A, by decide, rfl, Or.inr ⟨rfl, rfl, rfl, zin 333 rfl rfl⟩⟩
set_option maxRecDepth 100000 in
theorem f_A_34 : zFld "ArtifactBags$Artifact" 34 2 4 (.int) := ⟨"ArtifactBags$Artifact", zF_A, 6, zt_A, zc_A, by decide, rfl, Or.inl (zin 335 rfl rfl)⟩
set_option maxRecDepth 100000 in
theorem p_A_34 : zFldP "ArtifactBags$Artifact" "<init>" 34 2 4 (.int) := ⟨"ArtifactBags$Artifact", zF_A, 6, zt_A, zc_A, by decide, rfl, Or.inr ⟨rfl, rfl, rfl, zin 335 rfl rfl⟩⟩
set_option maxRecDepth 100000 in
theorem f_A_37 : zFld "ArtifactBags$Artifact" 37 2 5 (.int) := ⟨"ArtifactBags$Artifact", zF_A, 6, zt_A, zc_A, by decide, rfl, Or.inl (zin 337 rfl rfl)⟩
set_option maxRecDepth 100000 in
theorem p_A_37 : zFldP "ArtifactBags$Artifact" "<init>" 37 2 5 (.int) := ⟨"ArtifactBags$Artifact", zF_A, 6, zt_A, zc_A, by decide, rfl, Or.inr ⟨rfl, rfl, rfl, zin 337 rfl rfl⟩⟩
set_option maxRecDepth 100000 in
theorem f_A_40 : zFld "ArtifactBags$Artifact" 40 7 0 (.array .byte) := ⟨"ArtifactBags$Row", zF_R, 2, zt_R, zc_R, by decide, rfl, Or.inr ⟨"ArtifactBags", zinN 88 rfl rfl⟩⟩
set_option maxRecDepth 100000 in
theorem f_A_43 : zFld "ArtifactBags$Artifact" 43 7 1 (.int) := ⟨"ArtifactBags$Row", zF_R, 2, zt_R, zc_R, by decide, rfl, Or.inr ⟨"ArtifactBags", zinN 91 rfl rfl⟩⟩
set_option maxRecDepth 100000 in
theorem p_A_43 (nm : String) : zFldP "ArtifactBags$Artifact" nm 43 7 1 (.int) := ⟨"ArtifactBags$Row", zF_R, 2, zt_R, zc_R, by decide, rfl, Or.inl ⟨rfl, Or.inr ⟨"ArtifactBags", zinN 91 rfl rfl⟩⟩⟩
set_option maxRecDepth 100000 in
theorem f_A_81 : zFld "ArtifactBags$Artifact" 81 4 0 (.int) := ⟨"ArtifactBags$Card", zF_C, 5, zt_C, zc_C, by decide, rfl, Or.inr ⟨"ArtifactBags", zinN 210 rfl rfl⟩⟩
set_option maxRecDepth 100000 in
theorem f_A_84 : zFld "ArtifactBags$Artifact" 84 4 3 (.int) := ⟨"ArtifactBags$Card", zF_C, 5, zt_C, zc_C, by decide, rfl, Or.inr ⟨"ArtifactBags", zinN 217 rfl rfl⟩⟩
set_option maxRecDepth 100000 in
theorem f_A_93 : zFld "ArtifactBags$Artifact" 93 4 4 (.int) := ⟨"ArtifactBags$Card", zF_C, 5, zt_C, zc_C, by decide, rfl, Or.inr ⟨"ArtifactBags", zinN 221 rfl rfl⟩⟩
set_option maxRecDepth 100000 in
theorem f_A_96 : zFld "ArtifactBags$Artifact" 96 4 1 (.int) := ⟨"ArtifactBags$Card", zF_C, 5, zt_C, zc_C, by decide, rfl, Or.inr ⟨"ArtifactBags", zinN 213 rfl rfl⟩⟩
set_option maxRecDepth 100000 in
theorem f_G_11 : zFld "ArtifactBags$Bag" 11 3 0 (.array (.object "ArtifactBags$Artifact")) := ⟨"ArtifactBags$Bag", zF_G, 6, zt_G, zc_G, by decide, rfl, Or.inl (zin 58 rfl rfl)⟩
set_option maxRecDepth 100000 in
theorem p_G_11 : zFldP "ArtifactBags$Bag" "<init>" 11 3 0 (.array (.object "ArtifactBags$Artifact")) := ⟨"ArtifactBags$Bag", zF_G, 6, zt_G, zc_G, by decide, rfl, Or.inr ⟨rfl, rfl, rfl, zin 58 rfl rfl⟩⟩
set_option maxRecDepth 100000 in
theorem f_G_17 : zFld "ArtifactBags$Bag" 17 3 1 (.int) := ⟨"ArtifactBags$Bag", zF_G, 6, zt_G, zc_G, by decide, rfl, Or.inl (zin 60 rfl rfl)⟩
set_option maxRecDepth 100000 in
theorem p_G_17 (nm : String) : zFldP "ArtifactBags$Bag" nm 17 3 1 (.int) := ⟨"ArtifactBags$Bag", zF_G, 6, zt_G, zc_G, by decide, rfl, Or.inl ⟨rfl, Or.inl (zin 60 rfl rfl)⟩⟩
set_option maxRecDepth 100000 in
theorem f_G_24 : zFld "ArtifactBags$Bag" 24 3 2 (.object "ArtifactBags$History") := ⟨"ArtifactBags$Bag", zF_G, 6, zt_G, zc_G, by decide, rfl, Or.inl (zin 62 rfl rfl)⟩
set_option maxRecDepth 100000 in
theorem p_G_24 : zFldP "ArtifactBags$Bag" "<init>" 24 3 2 (.object "ArtifactBags$History") := ⟨"ArtifactBags$Bag", zF_G, 6, zt_G, zc_G, by decide, rfl, Or.inr ⟨rfl, rfl, rfl, zin 62 rfl rfl⟩⟩
set_option maxRecDepth 100000 in
theorem f_G_31 : zFld "ArtifactBags$Bag" 31 3 3 (.object "ArtifactBags$NameSet") := ⟨"ArtifactBags$Bag", zF_G, 6, zt_G, zc_G, by decide, rfl, Or.inl (zin 64 rfl rfl)⟩
set_option maxRecDepth 100000 in
theorem p_G_31 : zFldP "ArtifactBags$Bag" "<init>" 31 3 3 (.object "ArtifactBags$NameSet") := ⟨"ArtifactBags$Bag", zF_G, 6, zt_G, zc_G, by decide, rfl, Or.inr ⟨rfl, rfl, rfl, zin 64 rfl rfl⟩⟩
set_option maxRecDepth 100000 in
theorem f_G_35 : zFld "ArtifactBags$Bag" 35 3 4 (.object "ArtifactBags$NameSet") := ⟨"ArtifactBags$Bag", zF_G, 6, zt_G, zc_G, by decide, rfl, Or.inl (zin 66 rfl rfl)⟩
set_option maxRecDepth 100000 in
theorem p_G_35 : zFldP "ArtifactBags$Bag" "<init>" 35 3 4 (.object "ArtifactBags$NameSet") := ⟨"ArtifactBags$Bag", zF_G, 6, zt_G, zc_G, by decide, rfl, Or.inr ⟨rfl, rfl, rfl, zin 66 rfl rfl⟩⟩
set_option maxRecDepth 100000 in
theorem f_G_38 : zFld "ArtifactBags$Bag" 38 3 5 (.object "ArtifactBags$NameSet") := ⟨"ArtifactBags$Bag", zF_G, 6, zt_G, zc_G, by decide, rfl, Or.inl (zin 67 rfl rfl)⟩
set_option maxRecDepth 100000 in
theorem p_G_38 : zFldP "ArtifactBags$Bag" "<init>" 38 3 5 (.object "ArtifactBags$NameSet") := ⟨"ArtifactBags$Bag", zF_G, 6, zt_G, zc_G, by decide, rfl, Or.inr ⟨rfl, rfl, rfl, zin 67 rfl rfl⟩⟩
set_option maxRecDepth 100000 in
theorem f_G_45 : zFld "ArtifactBags$Bag" 45 2 1 (.int) := ⟨"ArtifactBags$Artifact", zF_A, 6, zt_A, zc_A, by decide, rfl, Or.inr ⟨"ArtifactBags", zinN 327 rfl rfl⟩⟩
set_option maxRecDepth 100000 in
theorem f_G_77 : zFld "ArtifactBags$Bag" 77 2 3 (.array (.object "ArtifactBags$Card")) := ⟨"ArtifactBags$Artifact", zF_A, 6, zt_A, zc_A, by decide, rfl, Or.inr ⟨"ArtifactBags", zinN 334 rfl rfl⟩⟩
set_option maxRecDepth 100000 in
theorem f_G_86 : zFld "ArtifactBags$Bag" 86 4 3 (.int) := ⟨"ArtifactBags$Card", zF_C, 5, zt_C, zc_C, by decide, rfl, Or.inr ⟨"ArtifactBags", zinN 218 rfl rfl⟩⟩
set_option maxRecDepth 100000 in
theorem f_G_92 : zFld "ArtifactBags$Bag" 92 4 4 (.int) := ⟨"ArtifactBags$Card", zF_C, 5, zt_C, zc_C, by decide, rfl, Or.inr ⟨"ArtifactBags", zinN 220 rfl rfl⟩⟩
set_option maxRecDepth 100000 in
theorem f_G_95 : zFld "ArtifactBags$Bag" 95 4 0 (.int) := ⟨"ArtifactBags$Card", zF_C, 5, zt_C, zc_C, by decide, rfl, Or.inr ⟨"ArtifactBags", zinN 211 rfl rfl⟩⟩
set_option maxRecDepth 100000 in
theorem f_G_101 : zFld "ArtifactBags$Bag" 101 2 2 (.int) := ⟨"ArtifactBags$Artifact", zF_A, 6, zt_A, zc_A, by decide, rfl, Or.inr ⟨"ArtifactBags", zinN 331 rfl rfl⟩⟩
set_option maxRecDepth 100000 in
theorem f_G_108 : zFld "ArtifactBags$Bag" 108 2 5 (.int) := ⟨"ArtifactBags$Artifact", zF_A, 6, zt_A, zc_A, by decide, rfl, Or.inr ⟨"ArtifactBags", zinN 338 rfl rfl⟩⟩
set_option maxRecDepth 100000 in
theorem f_G_113 : zFld "ArtifactBags$Bag" 113 2 0 (.array .byte) := ⟨"ArtifactBags$Artifact", zF_A, 6, zt_A, zc_A, by decide, rfl, Or.inr ⟨"ArtifactBags", zinN 325 rfl rfl⟩⟩
set_option maxRecDepth 100000 in
theorem f_G_132 : zFld "ArtifactBags$Bag" 132 2 4 (.int) := ⟨"ArtifactBags$Artifact", zF_A, 6, zt_A, zc_A, by decide, rfl, Or.inr ⟨"ArtifactBags", zinN 336 rfl rfl⟩⟩
set_option maxRecDepth 100000 in
theorem f_G_135 : zFld "ArtifactBags$Bag" 135 4 2 (.boolean) := ⟨"ArtifactBags$Card", zF_C, 5, zt_C, zc_C, by decide, rfl, Or.inr ⟨"ArtifactBags", zinN 215 rfl rfl⟩⟩
set_option maxRecDepth 100000 in
theorem f_C_9 : zFld "ArtifactBags$Card" 9 4 0 (.int) := ⟨"ArtifactBags$Card", zF_C, 5, zt_C, zc_C, by decide, rfl, Or.inl (zin 209 rfl rfl)⟩
set_option maxRecDepth 100000 in
theorem p_C_9 : zFldP "ArtifactBags$Card" "<init>" 9 4 0 (.int) := ⟨"ArtifactBags$Card", zF_C, 5, zt_C, zc_C, by decide, rfl, Or.inr ⟨rfl, rfl, rfl, zin 209 rfl rfl⟩⟩
set_option maxRecDepth 100000 in
theorem f_C_15 : zFld "ArtifactBags$Card" 15 4 1 (.int) := ⟨"ArtifactBags$Card", zF_C, 5, zt_C, zc_C, by decide, rfl, Or.inl (zin 212 rfl rfl)⟩
set_option maxRecDepth 100000 in
theorem p_C_15 : zFldP "ArtifactBags$Card" "<init>" 15 4 1 (.int) := ⟨"ArtifactBags$Card", zF_C, 5, zt_C, zc_C, by decide, rfl, Or.inr ⟨rfl, rfl, rfl, zin 212 rfl rfl⟩⟩
set_option maxRecDepth 100000 in
theorem f_C_18 : zFld "ArtifactBags$Card" 18 4 2 (.boolean) := ⟨"ArtifactBags$Card", zF_C, 5, zt_C, zc_C, by decide, rfl, Or.inl (zin 214 rfl rfl)⟩
set_option maxRecDepth 100000 in
theorem p_C_18 : zFldP "ArtifactBags$Card" "<init>" 18 4 2 (.boolean) := ⟨"ArtifactBags$Card", zF_C, 5, zt_C, zc_C, by decide, rfl, Or.inr ⟨rfl, rfl, rfl, zin 214 rfl rfl⟩⟩
set_option maxRecDepth 100000 in
theorem f_C_22 : zFld "ArtifactBags$Card" 22 4 3 (.int) := ⟨"ArtifactBags$Card", zF_C, 5, zt_C, zc_C, by decide, rfl, Or.inl (zin 216 rfl rfl)⟩
set_option maxRecDepth 100000 in
theorem p_C_22 : zFldP "ArtifactBags$Card" "<init>" 22 4 3 (.int) := ⟨"ArtifactBags$Card", zF_C, 5, zt_C, zc_C, by decide, rfl, Or.inr ⟨rfl, rfl, rfl, zin 216 rfl rfl⟩⟩
set_option maxRecDepth 100000 in
theorem f_C_25 : zFld "ArtifactBags$Card" 25 4 4 (.int) := ⟨"ArtifactBags$Card", zF_C, 5, zt_C, zc_C, by decide, rfl, Or.inl (zin 219 rfl rfl)⟩
set_option maxRecDepth 100000 in
theorem p_C_25 : zFldP "ArtifactBags$Card" "<init>" 25 4 4 (.int) := ⟨"ArtifactBags$Card", zF_C, 5, zt_C, zc_C, by decide, rfl, Or.inr ⟨rfl, rfl, rfl, zin 219 rfl rfl⟩⟩
set_option maxRecDepth 100000 in
theorem f_H_11 : zFld "ArtifactBags$History" 11 5 0 (.array (.object "ArtifactBags$Artifact")) := ⟨"ArtifactBags$History", zF_H, 2, zt_H, zc_H, by decide, rfl, Or.inl (zin 35 rfl rfl)⟩
set_option maxRecDepth 100000 in
theorem p_H_11 : zFldP "ArtifactBags$History" "<init>" 11 5 0 (.array (.object "ArtifactBags$Artifact")) := ⟨"ArtifactBags$History", zF_H, 2, zt_H, zc_H, by decide, rfl, Or.inr ⟨rfl, rfl, rfl, zin 35 rfl rfl⟩⟩
set_option maxRecDepth 100000 in
theorem f_H_17 : zFld "ArtifactBags$History" 17 5 1 (.int) := ⟨"ArtifactBags$History", zF_H, 2, zt_H, zc_H, by decide, rfl, Or.inl (zin 36 rfl rfl)⟩
set_option maxRecDepth 100000 in
theorem p_H_17 (nm : String) : zFldP "ArtifactBags$History" nm 17 5 1 (.int) := ⟨"ArtifactBags$History", zF_H, 2, zt_H, zc_H, by decide, rfl, Or.inl ⟨rfl, Or.inl (zin 36 rfl rfl)⟩⟩
set_option maxRecDepth 100000 in
theorem f_H_25 : zFld "ArtifactBags$History" 25 2 1 (.int) := ⟨"ArtifactBags$Artifact", zF_A, 6, zt_A, zc_A, by decide, rfl, Or.inr ⟨"ArtifactBags", zinN 328 rfl rfl⟩⟩
set_option maxRecDepth 100000 in
theorem f_N_7 : zFld "ArtifactBags$NameSet" 7 6 0 (.array .int) := ⟨"ArtifactBags$NameSet", zF_N, 2, zt_N, zc_N, by decide, rfl, Or.inl (zin 49 rfl rfl)⟩
set_option maxRecDepth 100000 in
theorem p_N_7 (nm : String) : zFldP "ArtifactBags$NameSet" nm 7 6 0 (.array .int) := ⟨"ArtifactBags$NameSet", zF_N, 2, zt_N, zc_N, by decide, rfl, Or.inl ⟨rfl, Or.inl (zin 49 rfl rfl)⟩⟩
set_option maxRecDepth 100000 in
theorem f_N_13 : zFld "ArtifactBags$NameSet" 13 6 1 (.int) := ⟨"ArtifactBags$NameSet", zF_N, 2, zt_N, zc_N, by decide, rfl, Or.inl (zin 50 rfl rfl)⟩
set_option maxRecDepth 100000 in
theorem p_N_13 (nm : String) : zFldP "ArtifactBags$NameSet" nm 13 6 1 (.int) := ⟨"ArtifactBags$NameSet", zF_N, 2, zt_N, zc_N, by decide, rfl, Or.inl ⟨rfl, Or.inl (zin 50 rfl rfl)⟩⟩
set_option maxRecDepth 100000 in
theorem f_R_9 : zFld "ArtifactBags$Row" 9 7 0 (.array .byte) := ⟨"ArtifactBags$Row", zF_R, 2, zt_R, zc_R, by decide, rfl, Or.inl (zin 87 rfl rfl)⟩
set_option maxRecDepth 100000 in
theorem p_R_9 : zFldP "ArtifactBags$Row" "<init>" 9 7 0 (.array .byte) := ⟨"ArtifactBags$Row", zF_R, 2, zt_R, zc_R, by decide, rfl, Or.inr ⟨rfl, rfl, rfl, zin 87 rfl rfl⟩⟩
set_option maxRecDepth 100000 in
theorem f_R_15 : zFld "ArtifactBags$Row" 15 7 1 (.int) := ⟨"ArtifactBags$Row", zF_R, 2, zt_R, zc_R, by decide, rfl, Or.inl (zin 90 rfl rfl)⟩
set_option maxRecDepth 100000 in
theorem p_R_15 (nm : String) : zFldP "ArtifactBags$Row" nm 15 7 1 (.int) := ⟨"ArtifactBags$Row", zF_R, 2, zt_R, zc_R, by decide, rfl, Or.inl ⟨rfl, Or.inl (zin 90 rfl rfl)⟩⟩
set_option maxRecDepth 100000 in
theorem f_m_7 : zFld "ArtifactBagsModel" 7 0 0 (.array .byte) := ⟨"ArtifactBagsModel", zF_m, 17, zt_m, zc_m, by decide, rfl, Or.inl (zin 547 rfl rfl)⟩
set_option maxRecDepth 100000 in
theorem p_m_7 : zFldP "ArtifactBagsModel" "<init>" 7 0 0 (.array .byte) := ⟨"ArtifactBagsModel", zF_m, 17, zt_m, zc_m, by decide, rfl, Or.inr ⟨rfl, rfl, rfl, zin 547 rfl rfl⟩⟩
set_option maxRecDepth 100000 in
theorem f_m_13 : zFld "ArtifactBagsModel" 13 0 1 (.array .int) := ⟨"ArtifactBagsModel", zF_m, 17, zt_m, zc_m, by decide, rfl, Or.inl (zin 548 rfl rfl)⟩
set_option maxRecDepth 100000 in
theorem p_m_13 : zFldP "ArtifactBagsModel" "<init>" 13 0 1 (.array .int) := ⟨"ArtifactBagsModel", zF_m, 17, zt_m, zc_m, by decide, rfl, Or.inr ⟨rfl, rfl, rfl, zin 548 rfl rfl⟩⟩
set_option maxRecDepth 100000 in
theorem f_m_17 : zFld "ArtifactBagsModel" 17 0 2 (.array .int) := ⟨"ArtifactBagsModel", zF_m, 17, zt_m, zc_m, by decide, rfl, Or.inl (zin 549 rfl rfl)⟩
set_option maxRecDepth 100000 in
theorem p_m_17 : zFldP "ArtifactBagsModel" "<init>" 17 0 2 (.array .int) := ⟨"ArtifactBagsModel", zF_m, 17, zt_m, zc_m, by decide, rfl, Or.inr ⟨rfl, rfl, rfl, zin 549 rfl rfl⟩⟩
set_option maxRecDepth 100000 in
theorem f_m_20 : zFld "ArtifactBagsModel" 20 0 3 (.array .int) := ⟨"ArtifactBagsModel", zF_m, 17, zt_m, zc_m, by decide, rfl, Or.inl (zin 550 rfl rfl)⟩
set_option maxRecDepth 100000 in
theorem p_m_20 : zFldP "ArtifactBagsModel" "<init>" 20 0 3 (.array .int) := ⟨"ArtifactBagsModel", zF_m, 17, zt_m, zc_m, by decide, rfl, Or.inr ⟨rfl, rfl, rfl, zin 550 rfl rfl⟩⟩
set_option maxRecDepth 100000 in
theorem f_m_23 : zFld "ArtifactBagsModel" 23 0 4 (.array .int) := ⟨"ArtifactBagsModel", zF_m, 17, zt_m, zc_m, by decide, rfl, Or.inl (zin 551 rfl rfl)⟩
set_option maxRecDepth 100000 in
theorem p_m_23 : zFldP "ArtifactBagsModel" "<init>" 23 0 4 (.array .int) := ⟨"ArtifactBagsModel", zF_m, 17, zt_m, zc_m, by decide, rfl, Or.inr ⟨rfl, rfl, rfl, zin 551 rfl rfl⟩⟩
set_option maxRecDepth 100000 in
theorem f_m_26 : zFld "ArtifactBagsModel" 26 0 5 (.array .int) := ⟨"ArtifactBagsModel", zF_m, 17, zt_m, zc_m, by decide, rfl, Or.inl (zin 552 rfl rfl)⟩
set_option maxRecDepth 100000 in
theorem p_m_26 : zFldP "ArtifactBagsModel" "<init>" 26 0 5 (.array .int) := ⟨"ArtifactBagsModel", zF_m, 17, zt_m, zc_m, by decide, rfl, Or.inr ⟨rfl, rfl, rfl, zin 552 rfl rfl⟩⟩
set_option maxRecDepth 100000 in
theorem f_m_29 : zFld "ArtifactBagsModel" 29 0 6 (.array .int) := ⟨"ArtifactBagsModel", zF_m, 17, zt_m, zc_m, by decide, rfl, Or.inl (zin 553 rfl rfl)⟩
set_option maxRecDepth 100000 in
theorem p_m_29 : zFldP "ArtifactBagsModel" "<init>" 29 0 6 (.array .int) := ⟨"ArtifactBagsModel", zF_m, 17, zt_m, zc_m, by decide, rfl, Or.inr ⟨rfl, rfl, rfl, zin 553 rfl rfl⟩⟩
set_option maxRecDepth 100000 in
theorem f_m_32 : zFld "ArtifactBagsModel" 32 0 7 (.array .int) := ⟨"ArtifactBagsModel", zF_m, 17, zt_m, zc_m, by decide, rfl, Or.inl (zin 554 rfl rfl)⟩
set_option maxRecDepth 100000 in
theorem p_m_32 : zFldP "ArtifactBagsModel" "<init>" 32 0 7 (.array .int) := ⟨"ArtifactBagsModel", zF_m, 17, zt_m, zc_m, by decide, rfl, Or.inr ⟨rfl, rfl, rfl, zin 554 rfl rfl⟩⟩
set_option maxRecDepth 100000 in
theorem f_m_35 : zFld "ArtifactBagsModel" 35 0 8 (.array .int) := ⟨"ArtifactBagsModel", zF_m, 17, zt_m, zc_m, by decide, rfl, Or.inl (zin 555 rfl rfl)⟩
set_option maxRecDepth 100000 in
theorem p_m_35 : zFldP "ArtifactBagsModel" "<init>" 35 0 8 (.array .int) := ⟨"ArtifactBagsModel", zF_m, 17, zt_m, zc_m, by decide, rfl, Or.inr ⟨rfl, rfl, rfl, zin 555 rfl rfl⟩⟩
set_option maxRecDepth 100000 in
theorem f_m_47 : zFld "ArtifactBagsModel" 47 0 11 (.int) := ⟨"ArtifactBagsModel", zF_m, 17, zt_m, zc_m, by decide, rfl, Or.inl (zin 558 rfl rfl)⟩
set_option maxRecDepth 100000 in
theorem p_m_47 (nm : String) : zFldP "ArtifactBagsModel" nm 47 0 11 (.int) := ⟨"ArtifactBagsModel", zF_m, 17, zt_m, zc_m, by decide, rfl, Or.inl ⟨rfl, Or.inl (zin 558 rfl rfl)⟩⟩
set_option maxRecDepth 100000 in
theorem f_m_51 : zFld "ArtifactBagsModel" 51 0 10 (.int) := ⟨"ArtifactBagsModel", zF_m, 17, zt_m, zc_m, by decide, rfl, Or.inl (zin 557 rfl rfl)⟩
set_option maxRecDepth 100000 in
theorem p_m_51 (nm : String) : zFldP "ArtifactBagsModel" nm 51 0 10 (.int) := ⟨"ArtifactBagsModel", zF_m, 17, zt_m, zc_m, by decide, rfl, Or.inl ⟨rfl, Or.inl (zin 557 rfl rfl)⟩⟩
set_option maxRecDepth 100000 in
theorem f_m_58 : zFld "ArtifactBagsModel" 58 0 14 (.int) := ⟨"ArtifactBagsModel", zF_m, 17, zt_m, zc_m, by decide, rfl, Or.inl (zin 561 rfl rfl)⟩
set_option maxRecDepth 100000 in
theorem p_m_58 (nm : String) : zFldP "ArtifactBagsModel" nm 58 0 14 (.int) := ⟨"ArtifactBagsModel", zF_m, 17, zt_m, zc_m, by decide, rfl, Or.inl ⟨rfl, Or.inl (zin 561 rfl rfl)⟩⟩
set_option maxRecDepth 100000 in
theorem f_m_61 : zFld "ArtifactBagsModel" 61 0 15 (.int) := ⟨"ArtifactBagsModel", zF_m, 17, zt_m, zc_m, by decide, rfl, Or.inl (zin 562 rfl rfl)⟩
set_option maxRecDepth 100000 in
theorem p_m_61 (nm : String) : zFldP "ArtifactBagsModel" nm 61 0 15 (.int) := ⟨"ArtifactBagsModel", zF_m, 17, zt_m, zc_m, by decide, rfl, Or.inl ⟨rfl, Or.inl (zin 562 rfl rfl)⟩⟩
set_option maxRecDepth 100000 in
theorem f_m_74 : zFld "ArtifactBagsModel" 74 0 12 (.int) := ⟨"ArtifactBagsModel", zF_m, 17, zt_m, zc_m, by decide, rfl, Or.inl (zin 559 rfl rfl)⟩
set_option maxRecDepth 100000 in
theorem p_m_74 (nm : String) : zFldP "ArtifactBagsModel" nm 74 0 12 (.int) := ⟨"ArtifactBagsModel", zF_m, 17, zt_m, zc_m, by decide, rfl, Or.inl ⟨rfl, Or.inl (zin 559 rfl rfl)⟩⟩
set_option maxRecDepth 100000 in
theorem f_m_83 : zFld "ArtifactBagsModel" 83 0 16 (.int) := ⟨"ArtifactBagsModel", zF_m, 17, zt_m, zc_m, by decide, rfl, Or.inl (zin 563 rfl rfl)⟩
set_option maxRecDepth 100000 in
theorem p_m_83 (nm : String) : zFldP "ArtifactBagsModel" nm 83 0 16 (.int) := ⟨"ArtifactBagsModel", zF_m, 17, zt_m, zc_m, by decide, rfl, Or.inl ⟨rfl, Or.inl (zin 563 rfl rfl)⟩⟩
set_option maxRecDepth 100000 in
theorem f_m_86 : zFld "ArtifactBagsModel" 86 0 13 (.boolean) := ⟨"ArtifactBagsModel", zF_m, 17, zt_m, zc_m, by decide, rfl, Or.inl (zin 560 rfl rfl)⟩
set_option maxRecDepth 100000 in
theorem p_m_86 (nm : String) : zFldP "ArtifactBagsModel" nm 86 0 13 (.boolean) := ⟨"ArtifactBagsModel", zF_m, 17, zt_m, zc_m, by decide, rfl, Or.inl ⟨rfl, Or.inl (zin 560 rfl rfl)⟩⟩
set_option maxRecDepth 100000 in
theorem f_m_136 : zFld "ArtifactBagsModel" 136 0 9 (.int) := ⟨"ArtifactBagsModel", zF_m, 17, zt_m, zc_m, by decide, rfl, Or.inl (zin 556 rfl rfl)⟩
set_option maxRecDepth 100000 in
theorem p_m_136 (nm : String) : zFldP "ArtifactBagsModel" nm 136 0 9 (.int) := ⟨"ArtifactBagsModel", zF_m, 17, zt_m, zc_m, by decide, rfl, Or.inl ⟨rfl, Or.inl (zin 556 rfl rfl)⟩⟩
set_option maxRecDepth 100000 in
theorem mi_B_init : zMI M_B_init 0 := ⟨⟨zin 16 rfl rfl, zin 1 rfl rfl, by decide, by decide, (by decide +kernel)⟩, zin 15 rfl rfl, rfl, rfl⟩
set_option maxRecDepth 100000 in
theorem mi_G_init : zMI M_G_init 0 := ⟨⟨zin 24 rfl rfl, zin 2 rfl rfl, by decide, by decide, (by decide +kernel)⟩, zin 23 rfl rfl, rfl, rfl⟩
set_option maxRecDepth 100000 in
theorem mi_H_init : zMI M_H_init 0 := ⟨⟨zin 32 rfl rfl, zin 3 rfl rfl, by decide, by decide, (by decide +kernel)⟩, zin 31 rfl rfl, rfl, rfl⟩
set_option maxRecDepth 100000 in
theorem mi_N_init : zMI M_N_init 0 := ⟨⟨zin 47 rfl rfl, zin 4 rfl rfl, by decide, by decide, (by decide +kernel)⟩, zin 46 rfl rfl, rfl, rfl⟩
set_option maxRecDepth 100000 in
theorem mi_R_init : zMI M_R_init 0 := ⟨⟨zin 85 rfl rfl, zin 5 rfl rfl, by decide, by decide, (by decide +kernel)⟩, zin 84 rfl rfl, rfl, rfl⟩
set_option maxRecDepth 100000 in
theorem mv_B_card : zMV M_B_card 3 1 := ⟨⟨zin 115 rfl rfl, zin 1 rfl rfl, by decide, by decide, (by decide +kernel)⟩, zin 113 rfl rfl, zin 114 rfl rfl, ⟨_, rfl, rfl⟩⟩
set_option maxRecDepth 100000 in
theorem ms_B_isWritable : zMS M_B_isWritable 3 := ⟨⟨zin 118 rfl rfl, zin 1 rfl rfl, by decide, by decide, (by decide +kernel)⟩, zin 117 rfl rfl⟩
set_option maxRecDepth 100000 in
theorem ms_B_isDigit : zMS M_B_isDigit 1 := ⟨⟨zin 121 rfl rfl, zin 1 rfl rfl, by decide, by decide, (by decide +kernel)⟩, zin 120 rfl rfl⟩
set_option maxRecDepth 100000 in
theorem ms_B_isName : zMS M_B_isName 1 := ⟨⟨zin 124 rfl rfl, zin 1 rfl rfl, by decide, by decide, (by decide +kernel)⟩, zin 123 rfl rfl⟩
set_option maxRecDepth 100000 in
theorem mv_R_clear : zMV M_R_clear 0 7 := ⟨⟨zin 129 rfl rfl, zin 5 rfl rfl, by decide, by decide, (by decide +kernel)⟩, zin 127 rfl rfl, zin 128 rfl rfl, ⟨_, rfl, rfl⟩⟩
set_option maxRecDepth 100000 in
theorem mv_B_writeCard : zMV M_B_writeCard 3 1 := ⟨⟨zin 133 rfl rfl, zin 1 rfl rfl, by decide, by decide, (by decide +kernel)⟩, zin 132 rfl rfl, zinS 0 rfl rfl, ⟨_, rfl, rfl⟩⟩
set_option maxRecDepth 100000 in
theorem mv_R_addTimeCard : zMV M_R_addTimeCard 1 7 := ⟨⟨zin 137 rfl rfl, zin 5 rfl rfl, by decide, by decide, (by decide +kernel)⟩, zin 135 rfl rfl, zin 136 rfl rfl, ⟨_, rfl, rfl⟩⟩
set_option maxRecDepth 100000 in
theorem mv_R_add : zMV M_R_add 1 7 := ⟨⟨zin 141 rfl rfl, zin 5 rfl rfl, by decide, by decide, (by decide +kernel)⟩, zin 139 rfl rfl, zin 140 rfl rfl, ⟨_, rfl, rfl⟩⟩
set_option maxRecDepth 100000 in
theorem mv_R_addFileCard : zMV M_R_addFileCard 2 7 := ⟨⟨zin 145 rfl rfl, zin 5 rfl rfl, by decide, by decide, (by decide +kernel)⟩, zin 143 rfl rfl, zin 144 rfl rfl, ⟨_, rfl, rfl⟩⟩
set_option maxRecDepth 100000 in
theorem mv_R_addSpaceAndName : zMV M_R_addSpaceAndName 1 7 := ⟨⟨zin 149 rfl rfl, zin 5 rfl rfl, by decide, by decide, (by decide +kernel)⟩, zin 148 rfl rfl, zinS 1 rfl rfl, ⟨_, rfl, rfl⟩⟩
set_option maxRecDepth 100000 in
theorem mv_R_addNameCard : zMV M_R_addNameCard 2 7 := ⟨⟨zin 153 rfl rfl, zin 5 rfl rfl, by decide, by decide, (by decide +kernel)⟩, zin 151 rfl rfl, zin 152 rfl rfl, ⟨_, rfl, rfl⟩⟩
set_option maxRecDepth 100000 in
theorem mv_R_addParentCard : zMV M_R_addParentCard 2 7 := ⟨⟨zin 157 rfl rfl, zin 5 rfl rfl, by decide, by decide, (by decide +kernel)⟩, zin 155 rfl rfl, zin 156 rfl rfl, ⟨_, rfl, rfl⟩⟩
set_option maxRecDepth 100000 in
theorem mv_R_addTagCard : zMV M_R_addTagCard 2 7 := ⟨⟨zin 161 rfl rfl, zin 5 rfl rfl, by decide, by decide, (by decide +kernel)⟩, zin 159 rfl rfl, zin 160 rfl rfl, ⟨_, rfl, rfl⟩⟩
set_option maxRecDepth 100000 in
theorem mv_R_digest : zMV M_R_digest 0 7 := ⟨⟨zin 165 rfl rfl, zin 5 rfl rfl, by decide, by decide, (by decide +kernel)⟩, zin 163 rfl rfl, zin 164 rfl rfl, ⟨_, rfl, rfl⟩⟩
set_option maxRecDepth 100000 in
theorem ms_B_digestAfter : zMS M_B_digestAfter 3 := ⟨⟨zin 168 rfl rfl, zin 1 rfl rfl, by decide, by decide, (by decide +kernel)⟩, zin 167 rfl rfl⟩
set_option maxRecDepth 100000 in
theorem mv_R_hasRoomFor : zMV M_R_hasRoomFor 1 7 := ⟨⟨zin 174 rfl rfl, zin 5 rfl rfl, by decide, by decide, (by decide +kernel)⟩, zin 172 rfl rfl, zin 173 rfl rfl, ⟨_, rfl, rfl⟩⟩
set_option maxRecDepth 100000 in
theorem mv_R_addRow : zMV M_R_addRow 1 7 := ⟨⟨zin 178 rfl rfl, zin 5 rfl rfl, by decide, by decide, (by decide +kernel)⟩, zin 176 rfl rfl, zin 177 rfl rfl, ⟨_, rfl, rfl⟩⟩
set_option maxRecDepth 100000 in
theorem mv_B_raw : zMV M_B_raw 2 1 := ⟨⟨zin 182 rfl rfl, zin 1 rfl rfl, by decide, by decide, (by decide +kernel)⟩, zin 180 rfl rfl, zin 181 rfl rfl, ⟨_, rfl, rfl⟩⟩
set_option maxRecDepth 100000 in
theorem mv_B_drop : zMV M_B_drop 0 1 := ⟨⟨zin 187 rfl rfl, zin 1 rfl rfl, by decide, by decide, (by decide +kernel)⟩, zin 185 rfl rfl, zin 186 rfl rfl, ⟨_, rfl, rfl⟩⟩
set_option maxRecDepth 100000 in
theorem mv_B_files : zMV M_B_files 1 1 := ⟨⟨zin 191 rfl rfl, zin 1 rfl rfl, by decide, by decide, (by decide +kernel)⟩, zin 189 rfl rfl, zin 190 rfl rfl, ⟨_, rfl, rfl⟩⟩
set_option maxRecDepth 100000 in
theorem mv_B_bagOf : zMV M_B_bagOf 1 1 := ⟨⟨zin 195 rfl rfl, zin 1 rfl rfl, by decide, by decide, (by decide +kernel)⟩, zin 194 rfl rfl, zinS 2 rfl rfl, ⟨_, rfl, rfl⟩⟩
set_option maxRecDepth 100000 in
theorem ms_C_read : zMS M_C_read 3 := ⟨⟨zin 198 rfl rfl, zin 7 rfl rfl, by decide, by decide, (by decide +kernel)⟩, zin 197 rfl rfl⟩
set_option maxRecDepth 100000 in
theorem ms_C_readTime : zMS M_C_readTime 3 := ⟨⟨zin 201 rfl rfl, zin 7 rfl rfl, by decide, by decide, (by decide +kernel)⟩, zin 200 rfl rfl⟩
set_option maxRecDepth 100000 in
theorem mi_C_init : zMI M_C_init 5 := ⟨⟨zin 207 rfl rfl, zin 7 rfl rfl, by decide, by decide, (by decide +kernel)⟩, zin 206 rfl rfl, rfl, rfl⟩
set_option maxRecDepth 100000 in
theorem ms_C_readFile : zMS M_C_readFile 3 := ⟨⟨zin 235 rfl rfl, zin 7 rfl rfl, by decide, by decide, (by decide +kernel)⟩, zin 234 rfl rfl⟩
set_option maxRecDepth 100000 in
theorem ms_C_readName : zMS M_C_readName 2 := ⟨⟨zin 238 rfl rfl, zin 7 rfl rfl, by decide, by decide, (by decide +kernel)⟩, zin 237 rfl rfl⟩
set_option maxRecDepth 100000 in
theorem ms_C_readOneName : zMS M_C_readOneName 4 := ⟨⟨zin 241 rfl rfl, zin 7 rfl rfl, by decide, by decide, (by decide +kernel)⟩, zin 240 rfl rfl⟩
set_option maxRecDepth 100000 in
theorem ms_C_readTwoParents : zMS M_C_readTwoParents 3 := ⟨⟨zin 244 rfl rfl, zin 7 rfl rfl, by decide, by decide, (by decide +kernel)⟩, zin 243 rfl rfl⟩
set_option maxRecDepth 100000 in
theorem ms_C_readTag : zMS M_C_readTag 3 := ⟨⟨zin 247 rfl rfl, zin 7 rfl rfl, by decide, by decide, (by decide +kernel)⟩, zin 246 rfl rfl⟩
set_option maxRecDepth 100000 in
theorem mv_G_digestWithFile : zMV M_G_digestWithFile 2 3 := ⟨⟨zin 251 rfl rfl, zin 2 rfl rfl, by decide, by decide, (by decide +kernel)⟩, zin 249 rfl rfl, zin 250 rfl rfl, ⟨_, rfl, rfl⟩⟩
set_option maxRecDepth 100000 in
theorem mv_G_find : zMV M_G_find 1 3 := ⟨⟨zin 255 rfl rfl, zin 2 rfl rfl, by decide, by decide, (by decide +kernel)⟩, zin 253 rfl rfl, zin 254 rfl rfl, ⟨_, rfl, rfl⟩⟩
set_option maxRecDepth 100000 in
theorem mv_B_put : zMV M_B_put 1 1 := ⟨⟨zin 260 rfl rfl, zin 1 rfl rfl, by decide, by decide, (by decide +kernel)⟩, zin 258 rfl rfl, zin 259 rfl rfl, ⟨_, rfl, rfl⟩⟩
set_option maxRecDepth 100000 in
theorem mv_G_holds : zMV M_G_holds 1 3 := ⟨⟨zin 264 rfl rfl, zin 2 rfl rfl, by decide, by decide, (by decide +kernel)⟩, zin 262 rfl rfl, zin 263 rfl rfl, ⟨_, rfl, rfl⟩⟩
set_option maxRecDepth 100000 in
theorem mv_G_isFull : zMV M_G_isFull 0 3 := ⟨⟨zin 268 rfl rfl, zin 2 rfl rfl, by decide, by decide, (by decide +kernel)⟩, zin 266 rfl rfl, zin 267 rfl rfl, ⟨_, rfl, rfl⟩⟩
set_option maxRecDepth 100000 in
theorem ms_A_of : zMS M_A_of 1 := ⟨⟨zin 271 rfl rfl, zin 8 rfl rfl, by decide, by decide, (by decide +kernel)⟩, zin 270 rfl rfl⟩
set_option maxRecDepth 100000 in
theorem ms_J_copyOf_b : zMS M_J_copyOf_b 2 := ⟨⟨zin 274 rfl rfl, zin 9 rfl rfl, by decide, by decide, (by decide +kernel)⟩, zin 273 rfl rfl⟩
set_option maxRecDepth 100000 in
theorem ms_K_min : zMS M_K_min 2 := ⟨⟨zin 284 rfl rfl, zin 10 rfl rfl, by decide, by decide, (by decide +kernel)⟩, zin 283 rfl rfl⟩
set_option maxRecDepth 100000 in
theorem ms_A_readLines : zMS M_A_readLines 1 := ⟨⟨zin 290 rfl rfl, zin 8 rfl rfl, by decide, by decide, (by decide +kernel)⟩, zin 289 rfl rfl⟩
set_option maxRecDepth 100000 in
theorem ms_A_countLines : zMS M_A_countLines 1 := ⟨⟨zin 295 rfl rfl, zin 8 rfl rfl, by decide, by decide, (by decide +kernel)⟩, zin 294 rfl rfl⟩
set_option maxRecDepth 100000 in
theorem ms_A_isWellFormed : zMS M_A_isWellFormed 2 := ⟨⟨zin 299 rfl rfl, zin 8 rfl rfl, by decide, by decide, (by decide +kernel)⟩, zin 298 rfl rfl⟩
set_option maxRecDepth 100000 in
theorem mv_C_mayFollow : zMV M_C_mayFollow 1 4 := ⟨⟨zin 303 rfl rfl, zin 7 rfl rfl, by decide, by decide, (by decide +kernel)⟩, zin 301 rfl rfl, zin 302 rfl rfl, ⟨_, rfl, rfl⟩⟩
set_option maxRecDepth 100000 in
theorem ms_A_sortOf : zMS M_A_sortOf 1 := ⟨⟨zin 307 rfl rfl, zin 8 rfl rfl, by decide, by decide, (by decide +kernel)⟩, zin 306 rfl rfl⟩
set_option maxRecDepth 100000 in
theorem ms_A_countOf : zMS M_A_countOf 2 := ⟨⟨zin 310 rfl rfl, zin 8 rfl rfl, by decide, by decide, (by decide +kernel)⟩, zin 309 rfl rfl⟩
set_option maxRecDepth 100000 in
theorem ms_A_countStarred : zMS M_A_countStarred 1 := ⟨⟨zin 313 rfl rfl, zin 8 rfl rfl, by decide, by decide, (by decide +kernel)⟩, zin 312 rfl rfl⟩
set_option maxRecDepth 100000 in
theorem mi_A_init : zMI M_A_init 3 := ⟨⟨zin 318 rfl rfl, zin 8 rfl rfl, by decide, by decide, (by decide +kernel)⟩, zin 317 rfl rfl, rfl, rfl⟩
set_option maxRecDepth 100000 in
theorem ms_A_numberOf : zMS M_A_numberOf 2 := ⟨⟨zin 322 rfl rfl, zin 8 rfl rfl, by decide, by decide, (by decide +kernel)⟩, zin 321 rfl rfl⟩
set_option maxRecDepth 100000 in
theorem mv_G_take : zMV M_G_take 1 3 := ⟨⟨zin 355 rfl rfl, zin 2 rfl rfl, by decide, by decide, (by decide +kernel)⟩, zin 353 rfl rfl, zin 354 rfl rfl, ⟨_, rfl, rfl⟩⟩
set_option maxRecDepth 100000 in
theorem mv_G_insert : zMV M_G_insert 1 3 := ⟨⟨zin 361 rfl rfl, zin 2 rfl rfl, by decide, by decide, (by decide +kernel)⟩, zin 360 rfl rfl, zinS 3 rfl rfl, ⟨_, rfl, rfl⟩⟩
set_option maxRecDepth 100000 in
theorem mv_N_remove : zMV M_N_remove 1 6 := ⟨⟨zin 365 rfl rfl, zin 4 rfl rfl, by decide, by decide, (by decide +kernel)⟩, zin 363 rfl rfl, zin 364 rfl rfl, ⟨_, rfl, rfl⟩⟩
set_option maxRecDepth 100000 in
theorem mv_N_placeOf : zMV M_N_placeOf 1 6 := ⟨⟨zin 369 rfl rfl, zin 4 rfl rfl, by decide, by decide, (by decide +kernel)⟩, zin 368 rfl rfl, zinS 4 rfl rfl, ⟨_, rfl, rfl⟩⟩
set_option maxRecDepth 100000 in
theorem mv_G_noteNamesOf : zMV M_G_noteNamesOf 1 3 := ⟨⟨zin 374 rfl rfl, zin 2 rfl rfl, by decide, by decide, (by decide +kernel)⟩, zin 373 rfl rfl, zinS 5 rfl rfl, ⟨_, rfl, rfl⟩⟩
set_option maxRecDepth 100000 in
theorem mv_C_namesWhatIsNeeded : zMV M_C_namesWhatIsNeeded 0 4 := ⟨⟨zin 378 rfl rfl, zin 7 rfl rfl, by decide, by decide, (by decide +kernel)⟩, zin 376 rfl rfl, zin 377 rfl rfl, ⟨_, rfl, rfl⟩⟩
set_option maxRecDepth 100000 in
theorem mv_G_want : zMV M_G_want 1 3 := ⟨⟨zin 382 rfl rfl, zin 2 rfl rfl, by decide, by decide, (by decide +kernel)⟩, zin 381 rfl rfl, zinS 6 rfl rfl, ⟨_, rfl, rfl⟩⟩
set_option maxRecDepth 100000 in
theorem mv_N_add : zMV M_N_add 1 6 := ⟨⟨zin 386 rfl rfl, zin 4 rfl rfl, by decide, by decide, (by decide +kernel)⟩, zin 384 rfl rfl, zin 385 rfl rfl, ⟨_, rfl, rfl⟩⟩
set_option maxRecDepth 100000 in
theorem ms_J_copyOf_i : zMS M_J_copyOf_i 2 := ⟨⟨zin 389 rfl rfl, zin 9 rfl rfl, by decide, by decide, (by decide +kernel)⟩, zin 388 rfl rfl⟩
set_option maxRecDepth 100000 in
theorem mv_A_namesFile : zMV M_A_namesFile 1 2 := ⟨⟨zin 398 rfl rfl, zin 8 rfl rfl, by decide, by decide, (by decide +kernel)⟩, zin 396 rfl rfl, zin 397 rfl rfl, ⟨_, rfl, rfl⟩⟩
set_option maxRecDepth 100000 in
theorem mv_G_noteIfCheckIn : zMV M_G_noteIfCheckIn 1 3 := ⟨⟨zin 402 rfl rfl, zin 2 rfl rfl, by decide, by decide, (by decide +kernel)⟩, zin 401 rfl rfl, zinS 7 rfl rfl, ⟨_, rfl, rfl⟩⟩
set_option maxRecDepth 100000 in
theorem mv_H_add : zMV M_H_add 1 5 := ⟨⟨zin 407 rfl rfl, zin 3 rfl rfl, by decide, by decide, (by decide +kernel)⟩, zin 405 rfl rfl, zin 406 rfl rfl, ⟨_, rfl, rfl⟩⟩
set_option maxRecDepth 100000 in
theorem mv_A_isEarlierThan : zMV M_A_isEarlierThan 1 2 := ⟨⟨zin 411 rfl rfl, zin 8 rfl rfl, by decide, by decide, (by decide +kernel)⟩, zin 409 rfl rfl, zin 410 rfl rfl, ⟨_, rfl, rfl⟩⟩
set_option maxRecDepth 100000 in
theorem mv_B_round : zMV M_B_round 1 1 := ⟨⟨zin 415 rfl rfl, zin 1 rfl rfl, by decide, by decide, (by decide +kernel)⟩, zin 413 rfl rfl, zin 414 rfl rfl, ⟨_, rfl, rfl⟩⟩
set_option maxRecDepth 100000 in
theorem mv_G_gatherCluster : zMV M_G_gatherCluster 1 3 := ⟨⟨zin 419 rfl rfl, zin 2 rfl rfl, by decide, by decide, (by decide +kernel)⟩, zin 417 rfl rfl, zin 418 rfl rfl, ⟨_, rfl, rfl⟩⟩
set_option maxRecDepth 100000 in
theorem mv_G_countLoose : zMV M_G_countLoose 0 3 := ⟨⟨zin 423 rfl rfl, zin 2 rfl rfl, by decide, by decide, (by decide +kernel)⟩, zin 421 rfl rfl, zin 422 rfl rfl, ⟨_, rfl, rfl⟩⟩
set_option maxRecDepth 100000 in
theorem mv_G_isLoose : zMV M_G_isLoose 1 3 := ⟨⟨zin 427 rfl rfl, zin 2 rfl rfl, by decide, by decide, (by decide +kernel)⟩, zin 426 rfl rfl, zinS 8 rfl rfl, ⟨_, rfl, rfl⟩⟩
set_option maxRecDepth 100000 in
theorem mv_N_contains : zMV M_N_contains 1 6 := ⟨⟨zin 431 rfl rfl, zin 4 rfl rfl, by decide, by decide, (by decide +kernel)⟩, zin 429 rfl rfl, zin 430 rfl rfl, ⟨_, rfl, rfl⟩⟩
set_option maxRecDepth 100000 in
theorem mv_G_sendTo : zMV M_G_sendTo 2 3 := ⟨⟨zin 440 rfl rfl, zin 2 rfl rfl, by decide, by decide, (by decide +kernel)⟩, zin 438 rfl rfl, zin 439 rfl rfl, ⟨_, rfl, rfl⟩⟩
set_option maxRecDepth 100000 in
theorem mv_N_copyFrom : zMV M_N_copyFrom 1 6 := ⟨⟨zin 444 rfl rfl, zin 4 rfl rfl, by decide, by decide, (by decide +kernel)⟩, zin 442 rfl rfl, zin 443 rfl rfl, ⟨_, rfl, rfl⟩⟩
set_option maxRecDepth 100000 in
theorem mv_B_held : zMV M_B_held 1 1 := ⟨⟨zin 448 rfl rfl, zin 1 rfl rfl, by decide, by decide, (by decide +kernel)⟩, zin 446 rfl rfl, zin 447 rfl rfl, ⟨_, rfl, rfl⟩⟩
set_option maxRecDepth 100000 in
theorem mv_B_name : zMV M_B_name 2 1 := ⟨⟨zin 452 rfl rfl, zin 1 rfl rfl, by decide, by decide, (by decide +kernel)⟩, zin 450 rfl rfl, zin 451 rfl rfl, ⟨_, rfl, rfl⟩⟩
set_option maxRecDepth 100000 in
theorem mv_B_octet : zMV M_B_octet 3 1 := ⟨⟨zin 456 rfl rfl, zin 1 rfl rfl, by decide, by decide, (by decide +kernel)⟩, zin 454 rfl rfl, zin 455 rfl rfl, ⟨_, rfl, rfl⟩⟩
set_option maxRecDepth 100000 in
theorem mv_B_artifactOf : zMV M_B_artifactOf 2 1 := ⟨⟨zin 460 rfl rfl, zin 1 rfl rfl, by decide, by decide, (by decide +kernel)⟩, zin 459 rfl rfl, zinS 9 rfl rfl, ⟨_, rfl, rfl⟩⟩
set_option maxRecDepth 100000 in
theorem mv_B_kind : zMV M_B_kind 2 1 := ⟨⟨zin 465 rfl rfl, zin 1 rfl rfl, by decide, by decide, (by decide +kernel)⟩, zin 463 rfl rfl, zin 464 rfl rfl, ⟨_, rfl, rfl⟩⟩
set_option maxRecDepth 100000 in
theorem mv_B_wanted : zMV M_B_wanted 1 1 := ⟨⟨zin 469 rfl rfl, zin 1 rfl rfl, by decide, by decide, (by decide +kernel)⟩, zin 467 rfl rfl, zin 468 rfl rfl, ⟨_, rfl, rfl⟩⟩
set_option maxRecDepth 100000 in
theorem mv_B_wants : zMV M_B_wants 2 1 := ⟨⟨zin 473 rfl rfl, zin 1 rfl rfl, by decide, by decide, (by decide +kernel)⟩, zin 471 rfl rfl, zin 472 rfl rfl, ⟨_, rfl, rfl⟩⟩
set_option maxRecDepth 100000 in
theorem mv_B_checkIns : zMV M_B_checkIns 1 1 := ⟨⟨zin 478 rfl rfl, zin 1 rfl rfl, by decide, by decide, (by decide +kernel)⟩, zin 476 rfl rfl, zin 477 rfl rfl, ⟨_, rfl, rfl⟩⟩
set_option maxRecDepth 100000 in
theorem mv_B_timeline : zMV M_B_timeline 2 1 := ⟨⟨zin 482 rfl rfl, zin 1 rfl rfl, by decide, by decide, (by decide +kernel)⟩, zin 480 rfl rfl, zin 481 rfl rfl, ⟨_, rfl, rfl⟩⟩
set_option maxRecDepth 100000 in
theorem mv_H_nameAt : zMV M_H_nameAt 1 5 := ⟨⟨zin 486 rfl rfl, zin 3 rfl rfl, by decide, by decide, (by decide +kernel)⟩, zin 484 rfl rfl, zin 485 rfl rfl, ⟨_, rfl, rfl⟩⟩
set_option maxRecDepth 100000 in
theorem mv_B_children : zMV M_B_children 2 1 := ⟨⟨zin 490 rfl rfl, zin 1 rfl rfl, by decide, by decide, (by decide +kernel)⟩, zin 488 rfl rfl, zin 489 rfl rfl, ⟨_, rfl, rfl⟩⟩
set_option maxRecDepth 100000 in
theorem mv_H_countChildren : zMV M_H_countChildren 1 5 := ⟨⟨zin 494 rfl rfl, zin 3 rfl rfl, by decide, by decide, (by decide +kernel)⟩, zin 492 rfl rfl, zin 493 rfl rfl, ⟨_, rfl, rfl⟩⟩
set_option maxRecDepth 100000 in
theorem mv_A_namesParent : zMV M_A_namesParent 1 2 := ⟨⟨zin 498 rfl rfl, zin 8 rfl rfl, by decide, by decide, (by decide +kernel)⟩, zin 496 rfl rfl, zin 497 rfl rfl, ⟨_, rfl, rfl⟩⟩
set_option maxRecDepth 100000 in
theorem mv_B_leaves : zMV M_B_leaves 1 1 := ⟨⟨zin 502 rfl rfl, zin 1 rfl rfl, by decide, by decide, (by decide +kernel)⟩, zin 500 rfl rfl, zin 501 rfl rfl, ⟨_, rfl, rfl⟩⟩
set_option maxRecDepth 100000 in
theorem mv_H_countLeaves : zMV M_H_countLeaves 0 5 := ⟨⟨zin 506 rfl rfl, zin 3 rfl rfl, by decide, by decide, (by decide +kernel)⟩, zin 504 rfl rfl, zin 505 rfl rfl, ⟨_, rfl, rfl⟩⟩
set_option maxRecDepth 100000 in
theorem mv_B_tag : zMV M_B_tag 3 1 := ⟨⟨zin 511 rfl rfl, zin 1 rfl rfl, by decide, by decide, (by decide +kernel)⟩, zin 509 rfl rfl, zin 510 rfl rfl, ⟨_, rfl, rfl⟩⟩
set_option maxRecDepth 100000 in
theorem mv_G_tagOf : zMV M_G_tagOf 2 3 := ⟨⟨zin 515 rfl rfl, zin 2 rfl rfl, by decide, by decide, (by decide +kernel)⟩, zin 513 rfl rfl, zin 514 rfl rfl, ⟨_, rfl, rfl⟩⟩
set_option maxRecDepth 100000 in
theorem mv_A_tagCardFor : zMV M_A_tagCardFor 2 2 := ⟨⟨zin 519 rfl rfl, zin 8 rfl rfl, by decide, by decide, (by decide +kernel)⟩, zin 517 rfl rfl, zin 518 rfl rfl, ⟨_, rfl, rfl⟩⟩
set_option maxRecDepth 100000 in
theorem mv_B_loose : zMV M_B_loose 1 1 := ⟨⟨zin 523 rfl rfl, zin 1 rfl rfl, by decide, by decide, (by decide +kernel)⟩, zin 521 rfl rfl, zin 522 rfl rfl, ⟨_, rfl, rfl⟩⟩
set_option maxRecDepth 100000 in
theorem mv_B_rebuild : zMV M_B_rebuild 1 1 := ⟨⟨zin 528 rfl rfl, zin 1 rfl rfl, by decide, by decide, (by decide +kernel)⟩, zin 526 rfl rfl, zin 527 rfl rfl, ⟨_, rfl, rfl⟩⟩
set_option maxRecDepth 100000 in
theorem mv_G_deriveAnew : zMV M_G_deriveAnew 0 3 := ⟨⟨zin 532 rfl rfl, zin 2 rfl rfl, by decide, by decide, (by decide +kernel)⟩, zin 530 rfl rfl, zin 531 rfl rfl, ⟨_, rfl, rfl⟩⟩
set_option maxRecDepth 100000 in
theorem mv_H_clear : zMV M_H_clear 0 5 := ⟨⟨zin 536 rfl rfl, zin 3 rfl rfl, by decide, by decide, (by decide +kernel)⟩, zin 534 rfl rfl, zin 535 rfl rfl, ⟨_, rfl, rfl⟩⟩
set_option maxRecDepth 100000 in
theorem mv_N_clear : zMV M_N_clear 0 6 := ⟨⟨zin 540 rfl rfl, zin 4 rfl rfl, by decide, by decide, (by decide +kernel)⟩, zin 538 rfl rfl, zin 539 rfl rfl, ⟨_, rfl, rfl⟩⟩
set_option maxRecDepth 100000 in
theorem mi_m_init : zMI M_m_init 0 := ⟨⟨zin 545 rfl rfl, zin 6 rfl rfl, by decide, by decide, (by decide +kernel)⟩, zin 544 rfl rfl, rfl, rfl⟩
set_option maxRecDepth 100000 in
theorem mv_m_card : zMV M_m_card 3 0 := ⟨⟨zin 602 rfl rfl, zin 6 rfl rfl, by decide, by decide, (by decide +kernel)⟩, zin 600 rfl rfl, zin 601 rfl rfl, ⟨_, rfl, rfl⟩⟩
set_option maxRecDepth 100000 in
theorem ms_m_size : zMS M_m_size 3 := ⟨⟨zin 605 rfl rfl, zin 6 rfl rfl, by decide, by decide, (by decide +kernel)⟩, zin 604 rfl rfl⟩
set_option maxRecDepth 100000 in
theorem ms_m_isName : zMS M_m_isName 1 := ⟨⟨zin 608 rfl rfl, zin 6 rfl rfl, by decide, by decide, (by decide +kernel)⟩, zin 607 rfl rfl⟩
set_option maxRecDepth 100000 in
theorem mv_m_digest : zMV M_m_digest 3 0 := ⟨⟨zin 613 rfl rfl, zin 6 rfl rfl, by decide, by decide, (by decide +kernel)⟩, zin 612 rfl rfl, zinS 10 rfl rfl, ⟨_, rfl, rfl⟩⟩
set_option maxRecDepth 100000 in
theorem mv_m_at : zMV M_m_at 2 0 := ⟨⟨zin 618 rfl rfl, zin 6 rfl rfl, by decide, by decide, (by decide +kernel)⟩, zin 617 rfl rfl, zinS 11 rfl rfl, ⟨_, rfl, rfl⟩⟩
set_option maxRecDepth 100000 in
theorem ms_m_letterOf : zMS M_m_letterOf 1 := ⟨⟨zin 622 rfl rfl, zin 6 rfl rfl, by decide, by decide, (by decide +kernel)⟩, zin 621 rfl rfl⟩
set_option maxRecDepth 100000 in
theorem mv_m_write : zMV M_m_write 2 0 := ⟨⟨zin 626 rfl rfl, zin 6 rfl rfl, by decide, by decide, (by decide +kernel)⟩, zin 625 rfl rfl, zinS 12 rfl rfl, ⟨_, rfl, rfl⟩⟩
set_option maxRecDepth 100000 in
theorem mv_m_writeName : zMV M_m_writeName 2 0 := ⟨⟨zin 630 rfl rfl, zin 6 rfl rfl, by decide, by decide, (by decide +kernel)⟩, zin 629 rfl rfl, zinS 13 rfl rfl, ⟨_, rfl, rfl⟩⟩
set_option maxRecDepth 100000 in
theorem mv_m_raw : zMV M_m_raw 2 0 := ⟨⟨zin 634 rfl rfl, zin 6 rfl rfl, by decide, by decide, (by decide +kernel)⟩, zin 632 rfl rfl, zin 633 rfl rfl, ⟨_, rfl, rfl⟩⟩
set_option maxRecDepth 100000 in
theorem mv_m_drop : zMV M_m_drop 0 0 := ⟨⟨zin 639 rfl rfl, zin 6 rfl rfl, by decide, by decide, (by decide +kernel)⟩, zin 637 rfl rfl, zin 638 rfl rfl, ⟨_, rfl, rfl⟩⟩
set_option maxRecDepth 100000 in
theorem mv_m_files : zMV M_m_files 1 0 := ⟨⟨zin 643 rfl rfl, zin 6 rfl rfl, by decide, by decide, (by decide +kernel)⟩, zin 641 rfl rfl, zin 642 rfl rfl, ⟨_, rfl, rfl⟩⟩
set_option maxRecDepth 100000 in
theorem ms_m_isRepository : zMS M_m_isRepository 1 := ⟨⟨zin 646 rfl rfl, zin 6 rfl rfl, by decide, by decide, (by decide +kernel)⟩, zin 645 rfl rfl⟩
set_option maxRecDepth 100000 in
theorem mv_m_filesOf : zMV M_m_filesOf 2 0 := ⟨⟨zin 650 rfl rfl, zin 6 rfl rfl, by decide, by decide, (by decide +kernel)⟩, zin 649 rfl rfl, zinS 14 rfl rfl, ⟨_, rfl, rfl⟩⟩
set_option maxRecDepth 100000 in
theorem mv_m_readLine : zMV M_m_readLine 2 0 := ⟨⟨zin 654 rfl rfl, zin 6 rfl rfl, by decide, by decide, (by decide +kernel)⟩, zin 653 rfl rfl, zinS 15 rfl rfl, ⟨_, rfl, rfl⟩⟩
set_option maxRecDepth 100000 in
theorem mv_m_isCard : zMV M_m_isCard 3 0 := ⟨⟨zin 658 rfl rfl, zin 6 rfl rfl, by decide, by decide, (by decide +kernel)⟩, zin 657 rfl rfl, zinS 16 rfl rfl, ⟨_, rfl, rfl⟩⟩
set_option maxRecDepth 100000 in
theorem mv_m_isNumber : zMV M_m_isNumber 3 0 := ⟨⟨zin 662 rfl rfl, zin 6 rfl rfl, by decide, by decide, (by decide +kernel)⟩, zin 661 rfl rfl, zinS 17 rfl rfl, ⟨_, rfl, rfl⟩⟩
set_option maxRecDepth 100000 in
theorem ms_m_isDigit : zMS M_m_isDigit 1 := ⟨⟨zin 665 rfl rfl, zin 6 rfl rfl, by decide, by decide, (by decide +kernel)⟩, zin 664 rfl rfl⟩
set_option maxRecDepth 100000 in
theorem mv_m_nameAt : zMV M_m_nameAt 2 0 := ⟨⟨zin 669 rfl rfl, zin 6 rfl rfl, by decide, by decide, (by decide +kernel)⟩, zin 668 rfl rfl, zinS 18 rfl rfl, ⟨_, rfl, rfl⟩⟩
set_option maxRecDepth 100000 in
theorem mv_m_isParent : zMV M_m_isParent 3 0 := ⟨⟨zin 673 rfl rfl, zin 6 rfl rfl, by decide, by decide, (by decide +kernel)⟩, zin 672 rfl rfl, zinS 19 rfl rfl, ⟨_, rfl, rfl⟩⟩
set_option maxRecDepth 100000 in
theorem mv_m_isTag : zMV M_m_isTag 3 0 := ⟨⟨zin 677 rfl rfl, zin 6 rfl rfl, by decide, by decide, (by decide +kernel)⟩, zin 676 rfl rfl, zinS 20 rfl rfl, ⟨_, rfl, rfl⟩⟩
set_option maxRecDepth 100000 in
theorem mv_m_find : zMV M_m_find 2 0 := ⟨⟨zin 681 rfl rfl, zin 6 rfl rfl, by decide, by decide, (by decide +kernel)⟩, zin 680 rfl rfl, zinS 21 rfl rfl, ⟨_, rfl, rfl⟩⟩
set_option maxRecDepth 100000 in
theorem mv_m_put : zMV M_m_put 1 0 := ⟨⟨zin 685 rfl rfl, zin 6 rfl rfl, by decide, by decide, (by decide +kernel)⟩, zin 683 rfl rfl, zin 684 rfl rfl, ⟨_, rfl, rfl⟩⟩
set_option maxRecDepth 100000 in
theorem mv_m_hold : zMV M_m_hold 3 0 := ⟨⟨zin 689 rfl rfl, zin 6 rfl rfl, by decide, by decide, (by decide +kernel)⟩, zin 688 rfl rfl, zinS 22 rfl rfl, ⟨_, rfl, rfl⟩⟩
set_option maxRecDepth 100000 in
theorem mv_m_round : zMV M_m_round 1 0 := ⟨⟨zin 693 rfl rfl, zin 6 rfl rfl, by decide, by decide, (by decide +kernel)⟩, zin 691 rfl rfl, zin 692 rfl rfl, ⟨_, rfl, rfl⟩⟩
set_option maxRecDepth 100000 in
theorem mv_m_makeCluster : zMV M_m_makeCluster 1 0 := ⟨⟨zin 697 rfl rfl, zin 6 rfl rfl, by decide, by decide, (by decide +kernel)⟩, zin 696 rfl rfl, zinS 23 rfl rfl, ⟨_, rfl, rfl⟩⟩
set_option maxRecDepth 100000 in
theorem mv_m_listLoose : zMV M_m_listLoose 1 0 := ⟨⟨zin 701 rfl rfl, zin 6 rfl rfl, by decide, by decide, (by decide +kernel)⟩, zin 700 rfl rfl, zinS 24 rfl rfl, ⟨_, rfl, rfl⟩⟩
set_option maxRecDepth 100000 in
theorem mv_m_clustered : zMV M_m_clustered 2 0 := ⟨⟨zin 705 rfl rfl, zin 6 rfl rfl, by decide, by decide, (by decide +kernel)⟩, zin 704 rfl rfl, zinS 25 rfl rfl, ⟨_, rfl, rfl⟩⟩
set_option maxRecDepth 100000 in
theorem mv_m_sort : zMV M_m_sort 1 0 := ⟨⟨zin 709 rfl rfl, zin 6 rfl rfl, by decide, by decide, (by decide +kernel)⟩, zin 708 rfl rfl, zinS 26 rfl rfl, ⟨_, rfl, rfl⟩⟩
set_option maxRecDepth 100000 in
theorem mv_m_has : zMV M_m_has 3 0 := ⟨⟨zin 713 rfl rfl, zin 6 rfl rfl, by decide, by decide, (by decide +kernel)⟩, zin 712 rfl rfl, zinS 27 rfl rfl, ⟨_, rfl, rfl⟩⟩
set_option maxRecDepth 100000 in
theorem mv_m_enlist : zMV M_m_enlist 1 0 := ⟨⟨zin 717 rfl rfl, zin 6 rfl rfl, by decide, by decide, (by decide +kernel)⟩, zin 716 rfl rfl, zinS 28 rfl rfl, ⟨_, rfl, rfl⟩⟩
set_option maxRecDepth 100000 in
theorem mv_m_message : zMV M_m_message 2 0 := ⟨⟨zin 721 rfl rfl, zin 6 rfl rfl, by decide, by decide, (by decide +kernel)⟩, zin 720 rfl rfl, zinS 29 rfl rfl, ⟨_, rfl, rfl⟩⟩
set_option maxRecDepth 100000 in
theorem mv_m_tell : zMV M_m_tell 2 0 := ⟨⟨zin 725 rfl rfl, zin 6 rfl rfl, by decide, by decide, (by decide +kernel)⟩, zin 724 rfl rfl, zinS 30 rfl rfl, ⟨_, rfl, rfl⟩⟩
set_option maxRecDepth 100000 in
theorem mv_m_listWanted : zMV M_m_listWanted 1 0 := ⟨⟨zin 729 rfl rfl, zin 6 rfl rfl, by decide, by decide, (by decide +kernel)⟩, zin 728 rfl rfl, zinS 31 rfl rfl, ⟨_, rfl, rfl⟩⟩
set_option maxRecDepth 100000 in
theorem mv_m_lack : zMV M_m_lack 2 0 := ⟨⟨zin 733 rfl rfl, zin 6 rfl rfl, by decide, by decide, (by decide +kernel)⟩, zin 732 rfl rfl, zinS 32 rfl rfl, ⟨_, rfl, rfl⟩⟩
set_option maxRecDepth 100000 in
theorem mv_m_held : zMV M_m_held 1 0 := ⟨⟨zin 737 rfl rfl, zin 6 rfl rfl, by decide, by decide, (by decide +kernel)⟩, zin 735 rfl rfl, zin 736 rfl rfl, ⟨_, rfl, rfl⟩⟩
set_option maxRecDepth 100000 in
theorem mv_m_name : zMV M_m_name 2 0 := ⟨⟨zin 741 rfl rfl, zin 6 rfl rfl, by decide, by decide, (by decide +kernel)⟩, zin 739 rfl rfl, zin 740 rfl rfl, ⟨_, rfl, rfl⟩⟩
set_option maxRecDepth 100000 in
theorem mv_m_octet : zMV M_m_octet 3 0 := ⟨⟨zin 745 rfl rfl, zin 6 rfl rfl, by decide, by decide, (by decide +kernel)⟩, zin 743 rfl rfl, zin 744 rfl rfl, ⟨_, rfl, rfl⟩⟩
set_option maxRecDepth 100000 in
theorem mv_m_kind : zMV M_m_kind 2 0 := ⟨⟨zin 749 rfl rfl, zin 6 rfl rfl, by decide, by decide, (by decide +kernel)⟩, zin 747 rfl rfl, zin 748 rfl rfl, ⟨_, rfl, rfl⟩⟩
set_option maxRecDepth 100000 in
theorem mv_m_wanted : zMV M_m_wanted 1 0 := ⟨⟨zin 753 rfl rfl, zin 6 rfl rfl, by decide, by decide, (by decide +kernel)⟩, zin 751 rfl rfl, zin 752 rfl rfl, ⟨_, rfl, rfl⟩⟩
set_option maxRecDepth 100000 in
theorem mv_m_wants : zMV M_m_wants 2 0 := ⟨⟨zin 757 rfl rfl, zin 6 rfl rfl, by decide, by decide, (by decide +kernel)⟩, zin 755 rfl rfl, zin 756 rfl rfl, ⟨_, rfl, rfl⟩⟩
set_option maxRecDepth 100000 in
theorem mv_m_checkIns : zMV M_m_checkIns 1 0 := ⟨⟨zin 761 rfl rfl, zin 6 rfl rfl, by decide, by decide, (by decide +kernel)⟩, zin 759 rfl rfl, zin 760 rfl rfl, ⟨_, rfl, rfl⟩⟩
set_option maxRecDepth 100000 in
theorem mv_m_isCheckIn : zMV M_m_isCheckIn 2 0 := ⟨⟨zin 765 rfl rfl, zin 6 rfl rfl, by decide, by decide, (by decide +kernel)⟩, zin 764 rfl rfl, zinS 33 rfl rfl, ⟨_, rfl, rfl⟩⟩
set_option maxRecDepth 100000 in
theorem mv_m_timeline : zMV M_m_timeline 2 0 := ⟨⟨zin 769 rfl rfl, zin 6 rfl rfl, by decide, by decide, (by decide +kernel)⟩, zin 767 rfl rfl, zin 768 rfl rfl, ⟨_, rfl, rfl⟩⟩
set_option maxRecDepth 100000 in
theorem mv_m_timeOf : zMV M_m_timeOf 1 0 := ⟨⟨zin 773 rfl rfl, zin 6 rfl rfl, by decide, by decide, (by decide +kernel)⟩, zin 772 rfl rfl, zinS 34 rfl rfl, ⟨_, rfl, rfl⟩⟩
set_option maxRecDepth 100000 in
theorem mv_m_children : zMV M_m_children 2 0 := ⟨⟨zin 777 rfl rfl, zin 6 rfl rfl, by decide, by decide, (by decide +kernel)⟩, zin 775 rfl rfl, zin 776 rfl rfl, ⟨_, rfl, rfl⟩⟩
set_option maxRecDepth 100000 in
theorem mv_m_leaves : zMV M_m_leaves 1 0 := ⟨⟨zin 781 rfl rfl, zin 6 rfl rfl, by decide, by decide, (by decide +kernel)⟩, zin 779 rfl rfl, zin 780 rfl rfl, ⟨_, rfl, rfl⟩⟩
set_option maxRecDepth 100000 in
theorem mv_m_tag : zMV M_m_tag 3 0 := ⟨⟨zin 786 rfl rfl, zin 6 rfl rfl, by decide, by decide, (by decide +kernel)⟩, zin 784 rfl rfl, zin 785 rfl rfl, ⟨_, rfl, rfl⟩⟩
set_option maxRecDepth 100000 in
theorem mv_m_signOf : zMV M_m_signOf 3 0 := ⟨⟨zin 790 rfl rfl, zin 6 rfl rfl, by decide, by decide, (by decide +kernel)⟩, zin 789 rfl rfl, zinS 35 rfl rfl, ⟨_, rfl, rfl⟩⟩
set_option maxRecDepth 100000 in
theorem mv_m_loose : zMV M_m_loose 1 0 := ⟨⟨zin 794 rfl rfl, zin 6 rfl rfl, by decide, by decide, (by decide +kernel)⟩, zin 792 rfl rfl, zin 793 rfl rfl, ⟨_, rfl, rfl⟩⟩
set_option maxRecDepth 100000 in
theorem mv_m_rebuild : zMV M_m_rebuild 1 0 := ⟨⟨zin 798 rfl rfl, zin 6 rfl rfl, by decide, by decide, (by decide +kernel)⟩, zin 796 rfl rfl, zin 797 rfl rfl, ⟨_, rfl, rfl⟩⟩
set_option maxRecDepth 100000 in
theorem kl9_B_1 : Cond.methodLink "ArtifactBags" 1 ⟨"java/lang/Object", "<init>", "()V"⟩ ∈ zT := zin 17 rfl rfl
set_option maxRecDepth 100000 in
theorem kl_B_1 : zLk "ArtifactBags" ⟨"java/lang/Object", "<init>", "()V"⟩ 1 := Or.inl (zin 17 rfl rfl)
set_option maxRecDepth 100000 in
theorem kl9_B_9 : Cond.methodLink "ArtifactBags" 9 ⟨"ArtifactBags$Bag", "<init>", "()V"⟩ ∈ zT := zin 22 rfl rfl
set_option maxRecDepth 100000 in
theorem kl_B_9 : zLk "ArtifactBags" ⟨"ArtifactBags$Bag", "<init>", "()V"⟩ 9 := Or.inl (zin 22 rfl rfl)
set_option maxRecDepth 100000 in
theorem kl9_B_21 : Cond.methodLink "ArtifactBags" 21 ⟨"ArtifactBags$Row", "<init>", "()V"⟩ ∈ zT := zin 83 rfl rfl
set_option maxRecDepth 100000 in
theorem kl_B_21 : zLk "ArtifactBags" ⟨"ArtifactBags$Row", "<init>", "()V"⟩ 21 := Or.inl (zin 83 rfl rfl)
set_option maxRecDepth 100000 in
theorem kl9_B_29 : Cond.methodLink "ArtifactBags" 29 ⟨"ArtifactBags", "isWritable", "(III)Z"⟩ ∈ zT := zin 116 rfl rfl
set_option maxRecDepth 100000 in
theorem kl_B_29 : zLk "ArtifactBags" ⟨"ArtifactBags", "isWritable", "(III)Z"⟩ 29 := Or.inl (zin 116 rfl rfl)
set_option maxRecDepth 100000 in
theorem kl9_B_33 : Cond.methodLink "ArtifactBags" 33 ⟨"ArtifactBags$Row", "clear", "()V"⟩ ∈ zT := zin 126 rfl rfl
set_option maxRecDepth 100000 in
theorem kl_B_33 : zLk "ArtifactBags" ⟨"ArtifactBags$Row", "clear", "()V"⟩ 33 := Or.inl (zin 126 rfl rfl)
set_option maxRecDepth 100000 in
theorem kl9_B_36 : Cond.methodLink "ArtifactBags" 36 ⟨"ArtifactBags", "writeCard", "(III)V"⟩ ∈ zT := zin 130 rfl rfl
set_option maxRecDepth 100000 in
theorem kl_B_36 : zLk "ArtifactBags" ⟨"ArtifactBags", "writeCard", "(III)V"⟩ 36 := Or.inl (zin 130 rfl rfl)
set_option maxRecDepth 100000 in
theorem kl9_B_44 : Cond.methodLink "ArtifactBags" 44 ⟨"ArtifactBags$Row", "hasRoomFor", "(I)Z"⟩ ∈ zT := zin 171 rfl rfl
set_option maxRecDepth 100000 in
theorem kl_B_44 : zLk "ArtifactBags" ⟨"ArtifactBags$Row", "hasRoomFor", "(I)Z"⟩ 44 := Or.inl (zin 171 rfl rfl)
set_option maxRecDepth 100000 in
theorem kl9_B_48 : Cond.methodLink "ArtifactBags" 48 ⟨"ArtifactBags$Row", "addRow", "(LArtifactBags$Row;)V"⟩ ∈ zT := zin 175 rfl rfl
set_option maxRecDepth 100000 in
theorem kl_B_48 : zLk "ArtifactBags" ⟨"ArtifactBags$Row", "addRow", "(LArtifactBags$Row;)V"⟩ 48 := Or.inl (zin 175 rfl rfl)
set_option maxRecDepth 100000 in
theorem kl9_B_52 : Cond.methodLink "ArtifactBags" 52 ⟨"ArtifactBags$Row", "add", "(I)V"⟩ ∈ zT := zin 183 rfl rfl
set_option maxRecDepth 100000 in
theorem kl_B_52 : zLk "ArtifactBags" ⟨"ArtifactBags$Row", "add", "(I)V"⟩ 52 := Or.inl (zin 183 rfl rfl)
set_option maxRecDepth 100000 in
theorem kl9_B_56 : Cond.methodLink "ArtifactBags" 56 ⟨"ArtifactBags", "bagOf", "(I)LArtifactBags$Bag;"⟩ ∈ zT := zin 192 rfl rfl
set_option maxRecDepth 100000 in
theorem kl_B_56 : zLk "ArtifactBags" ⟨"ArtifactBags", "bagOf", "(I)LArtifactBags$Bag;"⟩ 56 := Or.inl (zin 192 rfl rfl)
set_option maxRecDepth 100000 in
theorem kl9_B_64 : Cond.methodLink "ArtifactBags" 64 ⟨"ArtifactBags$Card", "read", "([BII)LArtifactBags$Card;"⟩ ∈ zT := zin 196 rfl rfl
set_option maxRecDepth 100000 in
theorem kl_B_64 : zLk "ArtifactBags" ⟨"ArtifactBags$Card", "read", "([BII)LArtifactBags$Card;"⟩ 64 := Or.inl (zin 196 rfl rfl)
set_option maxRecDepth 100000 in
theorem kl9_B_70 : Cond.methodLink "ArtifactBags" 70 ⟨"ArtifactBags$Bag", "digestWithFile", "(ILArtifactBags$Card;)I"⟩ ∈ zT := zin 248 rfl rfl
set_option maxRecDepth 100000 in
theorem kl_B_70 : zLk "ArtifactBags" ⟨"ArtifactBags$Bag", "digestWithFile", "(ILArtifactBags$Card;)I"⟩ 70 := Or.inl (zin 248 rfl rfl)
set_option maxRecDepth 100000 in
theorem kl9_B_74 : Cond.methodLink "ArtifactBags" 74 ⟨"ArtifactBags$Row", "digest", "()I"⟩ ∈ zT := zin 162 rfl rfl
set_option maxRecDepth 100000 in
theorem kl_B_74 : zLk "ArtifactBags" ⟨"ArtifactBags$Row", "digest", "()I"⟩ 74 := Or.inl (zin 162 rfl rfl)
set_option maxRecDepth 100000 in
theorem kl9_B_78 : Cond.methodLink "ArtifactBags" 78 ⟨"ArtifactBags$Bag", "holds", "(I)Z"⟩ ∈ zT := zin 261 rfl rfl
set_option maxRecDepth 100000 in
theorem kl_B_78 : zLk "ArtifactBags" ⟨"ArtifactBags$Bag", "holds", "(I)Z"⟩ 78 := Or.inl (zin 261 rfl rfl)
set_option maxRecDepth 100000 in
theorem kl9_B_81 : Cond.methodLink "ArtifactBags" 81 ⟨"ArtifactBags$Bag", "isFull", "()Z"⟩ ∈ zT := zin 265 rfl rfl
set_option maxRecDepth 100000 in
theorem kl_B_81 : zLk "ArtifactBags" ⟨"ArtifactBags$Bag", "isFull", "()Z"⟩ 81 := Or.inl (zin 265 rfl rfl)
set_option maxRecDepth 100000 in
theorem kl9_B_85 : Cond.methodLink "ArtifactBags" 85 ⟨"ArtifactBags$Artifact", "of", "(LArtifactBags$Row;)LArtifactBags$Artifact;"⟩ ∈ zT := zin 269 rfl rfl
set_option maxRecDepth 100000 in
theorem kl_B_85 : zLk "ArtifactBags" ⟨"ArtifactBags$Artifact", "of", "(LArtifactBags$Row;)LArtifactBags$Artifact;"⟩ 85 := Or.inl (zin 269 rfl rfl)
set_option maxRecDepth 100000 in
theorem kl9_B_91 : Cond.methodLink "ArtifactBags" 91 ⟨"ArtifactBags$Bag", "take", "(LArtifactBags$Artifact;)V"⟩ ∈ zT := zin 352 rfl rfl
set_option maxRecDepth 100000 in
theorem kl_B_91 : zLk "ArtifactBags" ⟨"ArtifactBags$Bag", "take", "(LArtifactBags$Artifact;)V"⟩ 91 := Or.inl (zin 352 rfl rfl)
set_option maxRecDepth 100000 in
theorem kl9_B_95 : Cond.methodLink "ArtifactBags" 95 ⟨"ArtifactBags$Bag", "gatherCluster", "(LArtifactBags$Row;)V"⟩ ∈ zT := zin 416 rfl rfl
set_option maxRecDepth 100000 in
theorem kl_B_95 : zLk "ArtifactBags" ⟨"ArtifactBags$Bag", "gatherCluster", "(LArtifactBags$Row;)V"⟩ 95 := Or.inl (zin 416 rfl rfl)
set_option maxRecDepth 100000 in
theorem kl9_B_98 : Cond.methodLink "ArtifactBags" 98 ⟨"ArtifactBags$Bag", "sendTo", "(LArtifactBags$Bag;I)I"⟩ ∈ zT := zin 437 rfl rfl
set_option maxRecDepth 100000 in
theorem kl_B_98 : zLk "ArtifactBags" ⟨"ArtifactBags$Bag", "sendTo", "(LArtifactBags$Bag;I)I"⟩ 98 := Or.inl (zin 437 rfl rfl)
set_option maxRecDepth 100000 in
theorem kl9_B_112 : Cond.methodLink "ArtifactBags" 112 ⟨"ArtifactBags", "artifactOf", "(II)LArtifactBags$Artifact;"⟩ ∈ zT := zin 457 rfl rfl
set_option maxRecDepth 100000 in
theorem kl_B_112 : zLk "ArtifactBags" ⟨"ArtifactBags", "artifactOf", "(II)LArtifactBags$Artifact;"⟩ 112 := Or.inl (zin 457 rfl rfl)
set_option maxRecDepth 100000 in
theorem kl9_B_129 : Cond.methodLink "ArtifactBags" 129 ⟨"ArtifactBags$NameSet", "contains", "(I)Z"⟩ ∈ zT := zin 474 rfl rfl
set_option maxRecDepth 100000 in
theorem kl_B_129 : zLk "ArtifactBags" ⟨"ArtifactBags$NameSet", "contains", "(I)Z"⟩ 129 := Or.inl (zin 474 rfl rfl)
set_option maxRecDepth 100000 in
theorem kl9_B_139 : Cond.methodLink "ArtifactBags" 139 ⟨"ArtifactBags$History", "nameAt", "(I)I"⟩ ∈ zT := zin 483 rfl rfl
set_option maxRecDepth 100000 in
theorem kl_B_139 : zLk "ArtifactBags" ⟨"ArtifactBags$History", "nameAt", "(I)I"⟩ 139 := Or.inl (zin 483 rfl rfl)
set_option maxRecDepth 100000 in
theorem kl9_B_143 : Cond.methodLink "ArtifactBags" 143 ⟨"ArtifactBags$History", "countChildren", "(I)I"⟩ ∈ zT := zin 491 rfl rfl
set_option maxRecDepth 100000 in
theorem kl_B_143 : zLk "ArtifactBags" ⟨"ArtifactBags$History", "countChildren", "(I)I"⟩ 143 := Or.inl (zin 491 rfl rfl)
set_option maxRecDepth 100000 in
theorem kl9_B_146 : Cond.methodLink "ArtifactBags" 146 ⟨"ArtifactBags$History", "countLeaves", "()I"⟩ ∈ zT := zin 503 rfl rfl
set_option maxRecDepth 100000 in
theorem kl_B_146 : zLk "ArtifactBags" ⟨"ArtifactBags$History", "countLeaves", "()I"⟩ 146 := Or.inl (zin 503 rfl rfl)
set_option maxRecDepth 100000 in
theorem kl9_B_149 : Cond.methodLink "ArtifactBags" 149 ⟨"ArtifactBags", "isDigit", "(I)Z"⟩ ∈ zT := zin 119 rfl rfl
set_option maxRecDepth 100000 in
theorem kl_B_149 : zLk "ArtifactBags" ⟨"ArtifactBags", "isDigit", "(I)Z"⟩ 149 := Or.inl (zin 119 rfl rfl)
set_option maxRecDepth 100000 in
theorem kl9_B_152 : Cond.methodLink "ArtifactBags" 152 ⟨"ArtifactBags$Bag", "tagOf", "(II)I"⟩ ∈ zT := zin 512 rfl rfl
set_option maxRecDepth 100000 in
theorem kl_B_152 : zLk "ArtifactBags" ⟨"ArtifactBags$Bag", "tagOf", "(II)I"⟩ 152 := Or.inl (zin 512 rfl rfl)
set_option maxRecDepth 100000 in
theorem kl9_B_156 : Cond.methodLink "ArtifactBags" 156 ⟨"ArtifactBags$Bag", "countLoose", "()I"⟩ ∈ zT := zin 524 rfl rfl
set_option maxRecDepth 100000 in
theorem kl_B_156 : zLk "ArtifactBags" ⟨"ArtifactBags$Bag", "countLoose", "()I"⟩ 156 := Or.inl (zin 524 rfl rfl)
set_option maxRecDepth 100000 in
theorem kl9_B_159 : Cond.methodLink "ArtifactBags" 159 ⟨"ArtifactBags$Bag", "deriveAnew", "()V"⟩ ∈ zT := zin 529 rfl rfl
set_option maxRecDepth 100000 in
theorem kl_B_159 : zLk "ArtifactBags" ⟨"ArtifactBags$Bag", "deriveAnew", "()V"⟩ 159 := Or.inl (zin 529 rfl rfl)
set_option maxRecDepth 100000 in
theorem kl9_B_162 : Cond.methodLink "ArtifactBags" 162 ⟨"ArtifactBags$Bag", "find", "(I)LArtifactBags$Artifact;"⟩ ∈ zT := zin 461 rfl rfl
set_option maxRecDepth 100000 in
theorem kl_B_162 : zLk "ArtifactBags" ⟨"ArtifactBags$Bag", "find", "(I)LArtifactBags$Artifact;"⟩ 162 := Or.inl (zin 461 rfl rfl)
set_option maxRecDepth 100000 in
theorem kl9_B_167 : Cond.methodLink "ArtifactBags" 167 ⟨"ArtifactBags", "isName", "(I)Z"⟩ ∈ zT := zin 122 rfl rfl
set_option maxRecDepth 100000 in
theorem kl_B_167 : zLk "ArtifactBags" ⟨"ArtifactBags", "isName", "(I)Z"⟩ 167 := Or.inl (zin 122 rfl rfl)
set_option maxRecDepth 100000 in
theorem kl9_B_170 : Cond.methodLink "ArtifactBags" 170 ⟨"ArtifactBags$Row", "addTimeCard", "(I)V"⟩ ∈ zT := zin 134 rfl rfl
set_option maxRecDepth 100000 in
theorem kl_B_170 : zLk "ArtifactBags" ⟨"ArtifactBags$Row", "addTimeCard", "(I)V"⟩ 170 := Or.inl (zin 134 rfl rfl)
set_option maxRecDepth 100000 in
theorem kl9_B_173 : Cond.methodLink "ArtifactBags" 173 ⟨"ArtifactBags$Row", "addFileCard", "(II)V"⟩ ∈ zT := zin 142 rfl rfl
set_option maxRecDepth 100000 in
theorem kl_B_173 : zLk "ArtifactBags" ⟨"ArtifactBags$Row", "addFileCard", "(II)V"⟩ 173 := Or.inl (zin 142 rfl rfl)
set_option maxRecDepth 100000 in
theorem kl9_B_177 : Cond.methodLink "ArtifactBags" 177 ⟨"ArtifactBags$Row", "addNameCard", "(II)V"⟩ ∈ zT := zin 150 rfl rfl
set_option maxRecDepth 100000 in
theorem kl_B_177 : zLk "ArtifactBags" ⟨"ArtifactBags$Row", "addNameCard", "(II)V"⟩ 177 := Or.inl (zin 150 rfl rfl)
set_option maxRecDepth 100000 in
theorem kl9_B_180 : Cond.methodLink "ArtifactBags" 180 ⟨"ArtifactBags$Row", "addParentCard", "(II)V"⟩ ∈ zT := zin 154 rfl rfl
set_option maxRecDepth 100000 in
theorem kl_B_180 : zLk "ArtifactBags" ⟨"ArtifactBags$Row", "addParentCard", "(II)V"⟩ 180 := Or.inl (zin 154 rfl rfl)
set_option maxRecDepth 100000 in
theorem kl9_B_183 : Cond.methodLink "ArtifactBags" 183 ⟨"ArtifactBags$Row", "addTagCard", "(II)V"⟩ ∈ zT := zin 158 rfl rfl
set_option maxRecDepth 100000 in
theorem kl_B_183 : zLk "ArtifactBags" ⟨"ArtifactBags$Row", "addTagCard", "(II)V"⟩ 183 := Or.inl (zin 158 rfl rfl)
set_option maxRecDepth 100000 in
theorem kl9_A_3 : Cond.methodLink "ArtifactBags$Artifact" 3 ⟨"java/lang/Object", "<init>", "()V"⟩ ∈ zT := zin 319 rfl rfl
set_option maxRecDepth 100000 in
theorem kl_A_3 : zLk "ArtifactBags$Artifact" ⟨"java/lang/Object", "<init>", "()V"⟩ 3 := Or.inl (zin 319 rfl rfl)
set_option maxRecDepth 100000 in
theorem kl_A_15 : zLk "ArtifactBags$Artifact" ⟨"ArtifactBags", "digestAfter", "(I[BI)I"⟩ 15 := Or.inr ⟨"ArtifactBags", zinN 304 rfl rfl⟩
set_option maxRecDepth 100000 in
theorem kl9_A_30 : Cond.methodLink "ArtifactBags$Artifact" 30 ⟨"ArtifactBags$Artifact", "numberOf", "(I[LArtifactBags$Card;)I"⟩ ∈ zT := zin 320 rfl rfl
set_option maxRecDepth 100000 in
theorem kl_A_30 : zLk "ArtifactBags$Artifact" ⟨"ArtifactBags$Artifact", "numberOf", "(I[LArtifactBags$Card;)I"⟩ 30 := Or.inl (zin 320 rfl rfl)
set_option maxRecDepth 100000 in
theorem kl9_A_46 : Cond.methodLink "ArtifactBags$Artifact" 46 ⟨"java/util/Arrays", "copyOf", "([BI)[B"⟩ ∈ zT := zin 272 rfl rfl
set_option maxRecDepth 100000 in
theorem kl_A_46 : zLk "ArtifactBags$Artifact" ⟨"java/util/Arrays", "copyOf", "([BI)[B"⟩ 46 := Or.inl (zin 272 rfl rfl)
set_option maxRecDepth 100000 in
theorem kl9_A_52 : Cond.methodLink "ArtifactBags$Artifact" 52 ⟨"ArtifactBags$Artifact", "readLines", "([B)[LArtifactBags$Card;"⟩ ∈ zT := zin 288 rfl rfl
set_option maxRecDepth 100000 in
theorem kl_A_52 : zLk "ArtifactBags$Artifact" ⟨"ArtifactBags$Artifact", "readLines", "([B)[LArtifactBags$Card;"⟩ 52 := Or.inl (zin 288 rfl rfl)
set_option maxRecDepth 100000 in
theorem kl9_A_56 : Cond.methodLink "ArtifactBags$Artifact" 56 ⟨"ArtifactBags$Artifact", "isWellFormed", "([B[LArtifactBags$Card;)Z"⟩ ∈ zT := zin 297 rfl rfl
set_option maxRecDepth 100000 in
theorem kl_A_56 : zLk "ArtifactBags$Artifact" ⟨"ArtifactBags$Artifact", "isWellFormed", "([B[LArtifactBags$Card;)Z"⟩ 56 := Or.inl (zin 297 rfl rfl)
set_option maxRecDepth 100000 in
theorem kl9_A_60 : Cond.methodLink "ArtifactBags$Artifact" 60 ⟨"ArtifactBags$Artifact", "sortOf", "([LArtifactBags$Card;)I"⟩ ∈ zT := zin 305 rfl rfl
set_option maxRecDepth 100000 in
theorem kl_A_60 : zLk "ArtifactBags$Artifact" ⟨"ArtifactBags$Artifact", "sortOf", "([LArtifactBags$Card;)I"⟩ 60 := Or.inl (zin 305 rfl rfl)
set_option maxRecDepth 100000 in
theorem kl9_A_66 : Cond.methodLink "ArtifactBags$Artifact" 66 ⟨"ArtifactBags$Artifact", "<init>", "([BI[LArtifactBags$Card;)V"⟩ ∈ zT := zin 316 rfl rfl
set_option maxRecDepth 100000 in
theorem kl_A_66 : zLk "ArtifactBags$Artifact" ⟨"ArtifactBags$Artifact", "<init>", "([BI[LArtifactBags$Card;)V"⟩ 66 := Or.inl (zin 316 rfl rfl)
set_option maxRecDepth 100000 in
theorem kl9_A_69 : Cond.methodLink "ArtifactBags$Artifact" 69 ⟨"ArtifactBags$Artifact", "countLines", "([B)I"⟩ ∈ zT := zin 293 rfl rfl
set_option maxRecDepth 100000 in
theorem kl_A_69 : zLk "ArtifactBags$Artifact" ⟨"ArtifactBags$Artifact", "countLines", "([B)I"⟩ 69 := Or.inl (zin 293 rfl rfl)
set_option maxRecDepth 100000 in
theorem kl9_A_73 : Cond.methodLink "ArtifactBags$Artifact" 73 ⟨"ArtifactBags$Card", "read", "([BII)LArtifactBags$Card;"⟩ ∈ zT := zin 296 rfl rfl
set_option maxRecDepth 100000 in
theorem kl_A_73 : zLk "ArtifactBags$Artifact" ⟨"ArtifactBags$Card", "read", "([BII)LArtifactBags$Card;"⟩ 73 := Or.inl (zin 296 rfl rfl)
set_option maxRecDepth 100000 in
theorem kl9_A_77 : Cond.methodLink "ArtifactBags$Artifact" 77 ⟨"ArtifactBags$Card", "mayFollow", "(LArtifactBags$Card;)Z"⟩ ∈ zT := zin 300 rfl rfl
set_option maxRecDepth 100000 in
theorem kl_A_77 : zLk "ArtifactBags$Artifact" ⟨"ArtifactBags$Card", "mayFollow", "(LArtifactBags$Card;)Z"⟩ 77 := Or.inl (zin 300 rfl rfl)
set_option maxRecDepth 100000 in
theorem kl9_A_87 : Cond.methodLink "ArtifactBags$Artifact" 87 ⟨"ArtifactBags$Artifact", "countOf", "(I[LArtifactBags$Card;)I"⟩ ∈ zT := zin 308 rfl rfl
set_option maxRecDepth 100000 in
theorem kl_A_87 : zLk "ArtifactBags$Artifact" ⟨"ArtifactBags$Artifact", "countOf", "(I[LArtifactBags$Card;)I"⟩ 87 := Or.inl (zin 308 rfl rfl)
set_option maxRecDepth 100000 in
theorem kl9_A_90 : Cond.methodLink "ArtifactBags$Artifact" 90 ⟨"ArtifactBags$Artifact", "countStarred", "([LArtifactBags$Card;)I"⟩ ∈ zT := zin 311 rfl rfl
set_option maxRecDepth 100000 in
theorem kl_A_90 : zLk "ArtifactBags$Artifact" ⟨"ArtifactBags$Artifact", "countStarred", "([LArtifactBags$Card;)I"⟩ 90 := Or.inl (zin 311 rfl rfl)
set_option maxRecDepth 100000 in
theorem kl9_G_3 : Cond.methodLink "ArtifactBags$Bag" 3 ⟨"java/lang/Object", "<init>", "()V"⟩ ∈ zT := zin 25 rfl rfl
set_option maxRecDepth 100000 in
theorem kl_G_3 : zLk "ArtifactBags$Bag" ⟨"java/lang/Object", "<init>", "()V"⟩ 3 := Or.inl (zin 25 rfl rfl)
set_option maxRecDepth 100000 in
theorem kl9_G_23 : Cond.methodLink "ArtifactBags$Bag" 23 ⟨"ArtifactBags$History", "<init>", "()V"⟩ ∈ zT := zin 30 rfl rfl
set_option maxRecDepth 100000 in
theorem kl_G_23 : zLk "ArtifactBags$Bag" ⟨"ArtifactBags$History", "<init>", "()V"⟩ 23 := Or.inl (zin 30 rfl rfl)
set_option maxRecDepth 100000 in
theorem kl9_G_30 : Cond.methodLink "ArtifactBags$Bag" 30 ⟨"ArtifactBags$NameSet", "<init>", "()V"⟩ ∈ zT := zin 45 rfl rfl
set_option maxRecDepth 100000 in
theorem kl_G_30 : zLk "ArtifactBags$Bag" ⟨"ArtifactBags$NameSet", "<init>", "()V"⟩ 30 := Or.inl (zin 45 rfl rfl)
set_option maxRecDepth 100000 in
theorem kl9_G_41 : Cond.methodLink "ArtifactBags$Bag" 41 ⟨"ArtifactBags$Bag", "find", "(I)LArtifactBags$Artifact;"⟩ ∈ zT := zin 252 rfl rfl
set_option maxRecDepth 100000 in
theorem kl_G_41 : zLk "ArtifactBags$Bag" ⟨"ArtifactBags$Bag", "find", "(I)LArtifactBags$Artifact;"⟩ 41 := Or.inl (zin 252 rfl rfl)
set_option maxRecDepth 100000 in
theorem kl9_G_48 : Cond.methodLink "ArtifactBags$Bag" 48 ⟨"ArtifactBags$Bag", "isFull", "()Z"⟩ ∈ zT := zin 356 rfl rfl
set_option maxRecDepth 100000 in
theorem kl_G_48 : zLk "ArtifactBags$Bag" ⟨"ArtifactBags$Bag", "isFull", "()Z"⟩ 48 := Or.inl (zin 356 rfl rfl)
set_option maxRecDepth 100000 in
theorem kl9_G_52 : Cond.methodLink "ArtifactBags$Bag" 52 ⟨"ArtifactBags$Bag", "holds", "(I)Z"⟩ ∈ zT := zin 357 rfl rfl
set_option maxRecDepth 100000 in
theorem kl_G_52 : zLk "ArtifactBags$Bag" ⟨"ArtifactBags$Bag", "holds", "(I)Z"⟩ 52 := Or.inl (zin 357 rfl rfl)
set_option maxRecDepth 100000 in
theorem kl9_G_56 : Cond.methodLink "ArtifactBags$Bag" 56 ⟨"ArtifactBags$Bag", "insert", "(LArtifactBags$Artifact;)V"⟩ ∈ zT := zin 358 rfl rfl
set_option maxRecDepth 100000 in
theorem kl_G_56 : zLk "ArtifactBags$Bag" ⟨"ArtifactBags$Bag", "insert", "(LArtifactBags$Artifact;)V"⟩ 56 := Or.inl (zin 358 rfl rfl)
set_option maxRecDepth 100000 in
theorem kl9_G_60 : Cond.methodLink "ArtifactBags$Bag" 60 ⟨"ArtifactBags$NameSet", "remove", "(I)V"⟩ ∈ zT := zin 362 rfl rfl
set_option maxRecDepth 100000 in
theorem kl_G_60 : zLk "ArtifactBags$Bag" ⟨"ArtifactBags$NameSet", "remove", "(I)V"⟩ 60 := Or.inl (zin 362 rfl rfl)
set_option maxRecDepth 100000 in
theorem kl9_G_64 : Cond.methodLink "ArtifactBags$Bag" 64 ⟨"ArtifactBags$Bag", "noteNamesOf", "(LArtifactBags$Artifact;)V"⟩ ∈ zT := zin 371 rfl rfl
set_option maxRecDepth 100000 in
theorem kl_G_64 : zLk "ArtifactBags$Bag" ⟨"ArtifactBags$Bag", "noteNamesOf", "(LArtifactBags$Artifact;)V"⟩ 64 := Or.inl (zin 371 rfl rfl)
set_option maxRecDepth 100000 in
theorem kl9_G_67 : Cond.methodLink "ArtifactBags$Bag" 67 ⟨"ArtifactBags$Artifact", "namesFile", "(I)Z"⟩ ∈ zT := zin 395 rfl rfl
set_option maxRecDepth 100000 in
theorem kl_G_67 : zLk "ArtifactBags$Bag" ⟨"ArtifactBags$Artifact", "namesFile", "(I)Z"⟩ 67 := Or.inl (zin 395 rfl rfl)
set_option maxRecDepth 100000 in
theorem kl9_G_70 : Cond.methodLink "ArtifactBags$Bag" 70 ⟨"ArtifactBags$Bag", "noteIfCheckIn", "(LArtifactBags$Artifact;)V"⟩ ∈ zT := zin 399 rfl rfl
set_option maxRecDepth 100000 in
theorem kl_G_70 : zLk "ArtifactBags$Bag" ⟨"ArtifactBags$Bag", "noteIfCheckIn", "(LArtifactBags$Artifact;)V"⟩ 70 := Or.inl (zin 399 rfl rfl)
set_option maxRecDepth 100000 in
theorem kl9_G_73 : Cond.methodLink "ArtifactBags$Bag" 73 ⟨"ArtifactBags$History", "clear", "()V"⟩ ∈ zT := zin 533 rfl rfl
set_option maxRecDepth 100000 in
theorem kl_G_73 : zLk "ArtifactBags$Bag" ⟨"ArtifactBags$History", "clear", "()V"⟩ 73 := Or.inl (zin 533 rfl rfl)
set_option maxRecDepth 100000 in
theorem kl9_G_76 : Cond.methodLink "ArtifactBags$Bag" 76 ⟨"ArtifactBags$NameSet", "clear", "()V"⟩ ∈ zT := zin 537 rfl rfl
set_option maxRecDepth 100000 in
theorem kl_G_76 : zLk "ArtifactBags$Bag" ⟨"ArtifactBags$NameSet", "clear", "()V"⟩ 76 := Or.inl (zin 537 rfl rfl)
set_option maxRecDepth 100000 in
theorem kl9_G_81 : Cond.methodLink "ArtifactBags$Bag" 81 ⟨"ArtifactBags$Card", "namesWhatIsNeeded", "()Z"⟩ ∈ zT := zin 375 rfl rfl
set_option maxRecDepth 100000 in
theorem kl_G_81 : zLk "ArtifactBags$Bag" ⟨"ArtifactBags$Card", "namesWhatIsNeeded", "()Z"⟩ 81 := Or.inl (zin 375 rfl rfl)
set_option maxRecDepth 100000 in
theorem kl9_G_89 : Cond.methodLink "ArtifactBags$Bag" 89 ⟨"ArtifactBags$Bag", "want", "(I)V"⟩ ∈ zT := zin 379 rfl rfl
set_option maxRecDepth 100000 in
theorem kl_G_89 : zLk "ArtifactBags$Bag" ⟨"ArtifactBags$Bag", "want", "(I)V"⟩ 89 := Or.inl (zin 379 rfl rfl)
set_option maxRecDepth 100000 in
theorem kl9_G_98 : Cond.methodLink "ArtifactBags$Bag" 98 ⟨"ArtifactBags$NameSet", "add", "(I)V"⟩ ∈ zT := zin 383 rfl rfl
set_option maxRecDepth 100000 in
theorem kl_G_98 : zLk "ArtifactBags$Bag" ⟨"ArtifactBags$NameSet", "add", "(I)V"⟩ 98 := Or.inl (zin 383 rfl rfl)
set_option maxRecDepth 100000 in
theorem kl9_G_104 : Cond.methodLink "ArtifactBags$Bag" 104 ⟨"ArtifactBags$Bag", "digestWithFile", "(ILArtifactBags$Card;)I"⟩ ∈ zT := zin 403 rfl rfl
set_option maxRecDepth 100000 in
theorem kl_G_104 : zLk "ArtifactBags$Bag" ⟨"ArtifactBags$Bag", "digestWithFile", "(ILArtifactBags$Card;)I"⟩ 104 := Or.inl (zin 403 rfl rfl)
set_option maxRecDepth 100000 in
theorem kl9_G_111 : Cond.methodLink "ArtifactBags$Bag" 111 ⟨"ArtifactBags$History", "add", "(LArtifactBags$Artifact;)V"⟩ ∈ zT := zin 404 rfl rfl
set_option maxRecDepth 100000 in
theorem kl_G_111 : zLk "ArtifactBags$Bag" ⟨"ArtifactBags$History", "add", "(LArtifactBags$Artifact;)V"⟩ 111 := Or.inl (zin 404 rfl rfl)
set_option maxRecDepth 100000 in
theorem kl_G_117 : zLk "ArtifactBags$Bag" ⟨"ArtifactBags", "digestAfter", "(I[BI)I"⟩ 117 := Or.inr ⟨"ArtifactBags", zinN 256 rfl rfl⟩
set_option maxRecDepth 100000 in
theorem kl9_G_121 : Cond.methodLink "ArtifactBags$Bag" 121 ⟨"ArtifactBags$NameSet", "contains", "(I)Z"⟩ ∈ zT := zin 428 rfl rfl
set_option maxRecDepth 100000 in
theorem kl_G_121 : zLk "ArtifactBags$Bag" ⟨"ArtifactBags$NameSet", "contains", "(I)Z"⟩ 121 := Or.inl (zin 428 rfl rfl)
set_option maxRecDepth 100000 in
theorem kl9_G_124 : Cond.methodLink "ArtifactBags$Bag" 124 ⟨"ArtifactBags$Bag", "isLoose", "(LArtifactBags$Artifact;)Z"⟩ ∈ zT := zin 424 rfl rfl
set_option maxRecDepth 100000 in
theorem kl_G_124 : zLk "ArtifactBags$Bag" ⟨"ArtifactBags$Bag", "isLoose", "(LArtifactBags$Artifact;)Z"⟩ 124 := Or.inl (zin 424 rfl rfl)
set_option maxRecDepth 100000 in
theorem kl9_G_128 : Cond.methodLink "ArtifactBags$Bag" 128 ⟨"ArtifactBags$Artifact", "tagCardFor", "(II)LArtifactBags$Card;"⟩ ∈ zT := zin 516 rfl rfl
set_option maxRecDepth 100000 in
theorem kl_G_128 : zLk "ArtifactBags$Bag" ⟨"ArtifactBags$Artifact", "tagCardFor", "(II)LArtifactBags$Card;"⟩ 128 := Or.inl (zin 516 rfl rfl)
set_option maxRecDepth 100000 in
theorem kl9_G_139 : Cond.methodLink "ArtifactBags$Bag" 139 ⟨"ArtifactBags$Bag", "countLoose", "()I"⟩ ∈ zT := zin 420 rfl rfl
set_option maxRecDepth 100000 in
theorem kl_G_139 : zLk "ArtifactBags$Bag" ⟨"ArtifactBags$Bag", "countLoose", "()I"⟩ 139 := Or.inl (zin 420 rfl rfl)
set_option maxRecDepth 100000 in
theorem kl9_G_143 : Cond.methodLink "ArtifactBags$Bag" 143 ⟨"ArtifactBags$Row", "clear", "()V"⟩ ∈ zT := zin 432 rfl rfl
set_option maxRecDepth 100000 in
theorem kl_G_143 : zLk "ArtifactBags$Bag" ⟨"ArtifactBags$Row", "clear", "()V"⟩ 143 := Or.inl (zin 432 rfl rfl)
set_option maxRecDepth 100000 in
theorem kl9_G_146 : Cond.methodLink "ArtifactBags$Bag" 146 ⟨"ArtifactBags$Row", "addNameCard", "(II)V"⟩ ∈ zT := zin 433 rfl rfl
set_option maxRecDepth 100000 in
theorem kl_G_146 : zLk "ArtifactBags$Bag" ⟨"ArtifactBags$Row", "addNameCard", "(II)V"⟩ 146 := Or.inl (zin 433 rfl rfl)
set_option maxRecDepth 100000 in
theorem kl9_G_150 : Cond.methodLink "ArtifactBags$Bag" 150 ⟨"ArtifactBags$Row", "digest", "()I"⟩ ∈ zT := zin 434 rfl rfl
set_option maxRecDepth 100000 in
theorem kl_G_150 : zLk "ArtifactBags$Bag" ⟨"ArtifactBags$Row", "digest", "()I"⟩ 150 := Or.inl (zin 434 rfl rfl)
set_option maxRecDepth 100000 in
theorem kl9_G_153 : Cond.methodLink "ArtifactBags$Bag" 153 ⟨"ArtifactBags$Artifact", "of", "(LArtifactBags$Row;)LArtifactBags$Artifact;"⟩ ∈ zT := zin 435 rfl rfl
set_option maxRecDepth 100000 in
theorem kl_G_153 : zLk "ArtifactBags$Bag" ⟨"ArtifactBags$Artifact", "of", "(LArtifactBags$Row;)LArtifactBags$Artifact;"⟩ 153 := Or.inl (zin 435 rfl rfl)
set_option maxRecDepth 100000 in
theorem kl9_G_157 : Cond.methodLink "ArtifactBags$Bag" 157 ⟨"ArtifactBags$Bag", "take", "(LArtifactBags$Artifact;)V"⟩ ∈ zT := zin 436 rfl rfl
set_option maxRecDepth 100000 in
theorem kl_G_157 : zLk "ArtifactBags$Bag" ⟨"ArtifactBags$Bag", "take", "(LArtifactBags$Artifact;)V"⟩ 157 := Or.inl (zin 436 rfl rfl)
set_option maxRecDepth 100000 in
theorem kl9_G_160 : Cond.methodLink "ArtifactBags$Bag" 160 ⟨"ArtifactBags$NameSet", "copyFrom", "(LArtifactBags$NameSet;)V"⟩ ∈ zT := zin 441 rfl rfl
set_option maxRecDepth 100000 in
theorem kl_G_160 : zLk "ArtifactBags$Bag" ⟨"ArtifactBags$NameSet", "copyFrom", "(LArtifactBags$NameSet;)V"⟩ 160 := Or.inl (zin 441 rfl rfl)
set_option maxRecDepth 100000 in
theorem kl9_C_3 : Cond.methodLink "ArtifactBags$Card" 3 ⟨"java/lang/Object", "<init>", "()V"⟩ ∈ zT := zin 208 rfl rfl
set_option maxRecDepth 100000 in
theorem kl_C_3 : zLk "ArtifactBags$Card" ⟨"java/lang/Object", "<init>", "()V"⟩ 3 := Or.inl (zin 208 rfl rfl)
set_option maxRecDepth 100000 in
theorem kl9_C_28 : Cond.methodLink "ArtifactBags$Card" 28 ⟨"ArtifactBags$Card", "readTime", "([BII)LArtifactBags$Card;"⟩ ∈ zT := zin 199 rfl rfl
set_option maxRecDepth 100000 in
theorem kl_C_28 : zLk "ArtifactBags$Card" ⟨"ArtifactBags$Card", "readTime", "([BII)LArtifactBags$Card;"⟩ 28 := Or.inl (zin 199 rfl rfl)
set_option maxRecDepth 100000 in
theorem kl9_C_32 : Cond.methodLink "ArtifactBags$Card" 32 ⟨"ArtifactBags$Card", "readFile", "([BII)LArtifactBags$Card;"⟩ ∈ zT := zin 233 rfl rfl
set_option maxRecDepth 100000 in
theorem kl_C_32 : zLk "ArtifactBags$Card" ⟨"ArtifactBags$Card", "readFile", "([BII)LArtifactBags$Card;"⟩ 32 := Or.inl (zin 233 rfl rfl)
set_option maxRecDepth 100000 in
theorem kl9_C_35 : Cond.methodLink "ArtifactBags$Card" 35 ⟨"ArtifactBags$Card", "readOneName", "(I[BII)LArtifactBags$Card;"⟩ ∈ zT := zin 239 rfl rfl
set_option maxRecDepth 100000 in
theorem kl_C_35 : zLk "ArtifactBags$Card" ⟨"ArtifactBags$Card", "readOneName", "(I[BII)LArtifactBags$Card;"⟩ 35 := Or.inl (zin 239 rfl rfl)
set_option maxRecDepth 100000 in
theorem kl9_C_39 : Cond.methodLink "ArtifactBags$Card" 39 ⟨"ArtifactBags$Card", "readTwoParents", "([BII)LArtifactBags$Card;"⟩ ∈ zT := zin 242 rfl rfl
set_option maxRecDepth 100000 in
theorem kl_C_39 : zLk "ArtifactBags$Card" ⟨"ArtifactBags$Card", "readTwoParents", "([BII)LArtifactBags$Card;"⟩ 39 := Or.inl (zin 242 rfl rfl)
set_option maxRecDepth 100000 in
theorem kl9_C_42 : Cond.methodLink "ArtifactBags$Card" 42 ⟨"ArtifactBags$Card", "readTag", "([BII)LArtifactBags$Card;"⟩ ∈ zT := zin 245 rfl rfl
set_option maxRecDepth 100000 in
theorem kl_C_42 : zLk "ArtifactBags$Card" ⟨"ArtifactBags$Card", "readTag", "([BII)LArtifactBags$Card;"⟩ 42 := Or.inl (zin 245 rfl rfl)
set_option maxRecDepth 100000 in
theorem kl_C_45 : zLk "ArtifactBags$Card" ⟨"ArtifactBags", "isDigit", "(I)Z"⟩ 45 := Or.inr ⟨"ArtifactBags", zinN 202 rfl rfl⟩
set_option maxRecDepth 100000 in
theorem kl9_C_49 : Cond.methodLink "ArtifactBags$Card" 49 ⟨"ArtifactBags$Card", "<init>", "(IIZII)V"⟩ ∈ zT := zin 205 rfl rfl
set_option maxRecDepth 100000 in
theorem kl_C_49 : zLk "ArtifactBags$Card" ⟨"ArtifactBags$Card", "<init>", "(IIZII)V"⟩ 49 := Or.inl (zin 205 rfl rfl)
set_option maxRecDepth 100000 in
theorem kl9_C_52 : Cond.methodLink "ArtifactBags$Card" 52 ⟨"ArtifactBags$Card", "readName", "([BI)I"⟩ ∈ zT := zin 236 rfl rfl
set_option maxRecDepth 100000 in
theorem kl_C_52 : zLk "ArtifactBags$Card" ⟨"ArtifactBags$Card", "readName", "([BI)I"⟩ 52 := Or.inl (zin 236 rfl rfl)
set_option maxRecDepth 100000 in
theorem kl9_H_3 : Cond.methodLink "ArtifactBags$History" 3 ⟨"java/lang/Object", "<init>", "()V"⟩ ∈ zT := zin 33 rfl rfl
set_option maxRecDepth 100000 in
theorem kl_H_3 : zLk "ArtifactBags$History" ⟨"java/lang/Object", "<init>", "()V"⟩ 3 := Or.inl (zin 33 rfl rfl)
set_option maxRecDepth 100000 in
theorem kl9_H_21 : Cond.methodLink "ArtifactBags$History" 21 ⟨"ArtifactBags$Artifact", "isEarlierThan", "(LArtifactBags$Artifact;)Z"⟩ ∈ zT := zin 408 rfl rfl
set_option maxRecDepth 100000 in
theorem kl_H_21 : zLk "ArtifactBags$History" ⟨"ArtifactBags$Artifact", "isEarlierThan", "(LArtifactBags$Artifact;)Z"⟩ 21 := Or.inl (zin 408 rfl rfl)
set_option maxRecDepth 100000 in
theorem kl9_H_28 : Cond.methodLink "ArtifactBags$History" 28 ⟨"ArtifactBags$Artifact", "namesParent", "(I)Z"⟩ ∈ zT := zin 495 rfl rfl
set_option maxRecDepth 100000 in
theorem kl_H_28 : zLk "ArtifactBags$History" ⟨"ArtifactBags$Artifact", "namesParent", "(I)Z"⟩ 28 := Or.inl (zin 495 rfl rfl)
set_option maxRecDepth 100000 in
theorem kl9_H_32 : Cond.methodLink "ArtifactBags$History" 32 ⟨"ArtifactBags$History", "countChildren", "(I)I"⟩ ∈ zT := zin 507 rfl rfl
set_option maxRecDepth 100000 in
theorem kl_H_32 : zLk "ArtifactBags$History" ⟨"ArtifactBags$History", "countChildren", "(I)I"⟩ 32 := Or.inl (zin 507 rfl rfl)
set_option maxRecDepth 100000 in
theorem kl9_N_1 : Cond.methodLink "ArtifactBags$NameSet" 1 ⟨"java/lang/Object", "<init>", "()V"⟩ ∈ zT := zin 48 rfl rfl
set_option maxRecDepth 100000 in
theorem kl_N_1 : zLk "ArtifactBags$NameSet" ⟨"java/lang/Object", "<init>", "()V"⟩ 1 := Or.inl (zin 48 rfl rfl)
set_option maxRecDepth 100000 in
theorem kl9_N_17 : Cond.methodLink "ArtifactBags$NameSet" 17 ⟨"ArtifactBags$NameSet", "placeOf", "(I)I"⟩ ∈ zT := zin 366 rfl rfl
set_option maxRecDepth 100000 in
theorem kl_N_17 : zLk "ArtifactBags$NameSet" ⟨"ArtifactBags$NameSet", "placeOf", "(I)I"⟩ 17 := Or.inl (zin 366 rfl rfl)
set_option maxRecDepth 100000 in
theorem kl9_N_21 : Cond.methodLink "ArtifactBags$NameSet" 21 ⟨"java/util/Arrays", "copyOf", "([II)[I"⟩ ∈ zT := zin 387 rfl rfl
set_option maxRecDepth 100000 in
theorem kl_N_21 : zLk "ArtifactBags$NameSet" ⟨"java/util/Arrays", "copyOf", "([II)[I"⟩ 21 := Or.inl (zin 387 rfl rfl)
set_option maxRecDepth 100000 in
theorem kl9_N_27 : Cond.methodLink "ArtifactBags$NameSet" 27 ⟨"java/lang/System", "arraycopy", "(Ljava/lang/Object;ILjava/lang/Object;II)V"⟩ ∈ zT := zin 370 rfl rfl
set_option maxRecDepth 100000 in
theorem kl_N_27 : zLk "ArtifactBags$NameSet" ⟨"java/lang/System", "arraycopy", "(Ljava/lang/Object;ILjava/lang/Object;II)V"⟩ 27 := Or.inl (zin 370 rfl rfl)
set_option maxRecDepth 100000 in
theorem kl9_R_3 : Cond.methodLink "ArtifactBags$Row" 3 ⟨"java/lang/Object", "<init>", "()V"⟩ ∈ zT := zin 86 rfl rfl
set_option maxRecDepth 100000 in
theorem kl_R_3 : zLk "ArtifactBags$Row" ⟨"java/lang/Object", "<init>", "()V"⟩ 3 := Or.inl (zin 86 rfl rfl)
set_option maxRecDepth 100000 in
theorem kl_R_19 : zLk "ArtifactBags$Row" ⟨"ArtifactBags", "digestAfter", "(I[BI)I"⟩ 19 := Or.inr ⟨"ArtifactBags", zinN 166 rfl rfl⟩
set_option maxRecDepth 100000 in
theorem kl9_R_23 : Cond.methodLink "ArtifactBags$Row" 23 ⟨"ArtifactBags$Row", "add", "(I)V"⟩ ∈ zT := zin 138 rfl rfl
set_option maxRecDepth 100000 in
theorem kl_R_23 : zLk "ArtifactBags$Row" ⟨"ArtifactBags$Row", "add", "(I)V"⟩ 23 := Or.inl (zin 138 rfl rfl)
set_option maxRecDepth 100000 in
theorem kl9_R_27 : Cond.methodLink "ArtifactBags$Row" 27 ⟨"ArtifactBags$Row", "addSpaceAndName", "(I)V"⟩ ∈ zT := zin 146 rfl rfl
set_option maxRecDepth 100000 in
theorem kl_R_27 : zLk "ArtifactBags$Row" ⟨"ArtifactBags$Row", "addSpaceAndName", "(I)V"⟩ 27 := Or.inl (zin 146 rfl rfl)
set_option maxRecDepth 100000 in
theorem kl9_m_1 : Cond.methodLink "ArtifactBagsModel" 1 ⟨"java/lang/Object", "<init>", "()V"⟩ ∈ zT := zin 546 rfl rfl
set_option maxRecDepth 100000 in
theorem kl_m_1 : zLk "ArtifactBagsModel" ⟨"java/lang/Object", "<init>", "()V"⟩ 1 := Or.inl (zin 546 rfl rfl)
set_option maxRecDepth 100000 in
theorem kl9_m_40 : Cond.methodLink "ArtifactBagsModel" 40 ⟨"ArtifactBagsModel", "at", "(II)I"⟩ ∈ zT := zin 615 rfl rfl
set_option maxRecDepth 100000 in
theorem kl_m_40 : zLk "ArtifactBagsModel" ⟨"ArtifactBagsModel", "at", "(II)I"⟩ 40 := Or.inl (zin 615 rfl rfl)
set_option maxRecDepth 100000 in
theorem kl9_m_54 : Cond.methodLink "ArtifactBagsModel" 54 ⟨"ArtifactBagsModel", "isCard", "(III)Z"⟩ ∈ zT := zin 655 rfl rfl
set_option maxRecDepth 100000 in
theorem kl_m_54 : zLk "ArtifactBagsModel" ⟨"ArtifactBagsModel", "isCard", "(III)Z"⟩ 54 := Or.inl (zin 655 rfl rfl)
set_option maxRecDepth 100000 in
theorem kl9_m_64 : Cond.methodLink "ArtifactBagsModel" 64 ⟨"ArtifactBagsModel", "isNumber", "(III)Z"⟩ ∈ zT := zin 659 rfl rfl
set_option maxRecDepth 100000 in
theorem kl_m_64 : zLk "ArtifactBagsModel" ⟨"ArtifactBagsModel", "isNumber", "(III)Z"⟩ 64 := Or.inl (zin 659 rfl rfl)
set_option maxRecDepth 100000 in
theorem kl9_m_67 : Cond.methodLink "ArtifactBagsModel" 67 ⟨"ArtifactBagsModel", "nameAt", "(II)I"⟩ ∈ zT := zin 666 rfl rfl
set_option maxRecDepth 100000 in
theorem kl_m_67 : zLk "ArtifactBagsModel" ⟨"ArtifactBagsModel", "nameAt", "(II)I"⟩ 67 := Or.inl (zin 666 rfl rfl)
set_option maxRecDepth 100000 in
theorem kl9_m_70 : Cond.methodLink "ArtifactBagsModel" 70 ⟨"ArtifactBagsModel", "isDigit", "(I)Z"⟩ ∈ zT := zin 663 rfl rfl
set_option maxRecDepth 100000 in
theorem kl_m_70 : zLk "ArtifactBagsModel" ⟨"ArtifactBagsModel", "isDigit", "(I)Z"⟩ 70 := Or.inl (zin 663 rfl rfl)
set_option maxRecDepth 100000 in
theorem kl9_m_77 : Cond.methodLink "ArtifactBagsModel" 77 ⟨"ArtifactBagsModel", "isParent", "(III)Z"⟩ ∈ zT := zin 670 rfl rfl
set_option maxRecDepth 100000 in
theorem kl_m_77 : zLk "ArtifactBagsModel" ⟨"ArtifactBagsModel", "isParent", "(III)Z"⟩ 77 := Or.inl (zin 670 rfl rfl)
set_option maxRecDepth 100000 in
theorem kl9_m_80 : Cond.methodLink "ArtifactBagsModel" 80 ⟨"ArtifactBagsModel", "isTag", "(III)Z"⟩ ∈ zT := zin 674 rfl rfl
set_option maxRecDepth 100000 in
theorem kl_m_80 : zLk "ArtifactBagsModel" ⟨"ArtifactBagsModel", "isTag", "(III)Z"⟩ 80 := Or.inl (zin 674 rfl rfl)
set_option maxRecDepth 100000 in
theorem kl9_m_90 : Cond.methodLink "ArtifactBagsModel" 90 ⟨"ArtifactBagsModel", "readLine", "(II)Z"⟩ ∈ zT := zin 651 rfl rfl
set_option maxRecDepth 100000 in
theorem kl_m_90 : zLk "ArtifactBagsModel" ⟨"ArtifactBagsModel", "readLine", "(II)Z"⟩ 90 := Or.inl (zin 651 rfl rfl)
set_option maxRecDepth 100000 in
theorem kl9_m_94 : Cond.methodLink "ArtifactBagsModel" 94 ⟨"ArtifactBagsModel", "digest", "(III)I"⟩ ∈ zT := zin 610 rfl rfl
set_option maxRecDepth 100000 in
theorem kl_m_94 : zLk "ArtifactBagsModel" ⟨"ArtifactBagsModel", "digest", "(III)I"⟩ 94 := Or.inl (zin 610 rfl rfl)
set_option maxRecDepth 100000 in
theorem kl9_m_98 : Cond.methodLink "ArtifactBagsModel" 98 ⟨"ArtifactBagsModel", "find", "(II)I"⟩ ∈ zT := zin 678 rfl rfl
set_option maxRecDepth 100000 in
theorem kl_m_98 : zLk "ArtifactBagsModel" ⟨"ArtifactBagsModel", "find", "(II)I"⟩ 98 := Or.inl (zin 678 rfl rfl)
set_option maxRecDepth 100000 in
theorem kl9_m_101 : Cond.methodLink "ArtifactBagsModel" 101 ⟨"ArtifactBagsModel", "sort", "(I)I"⟩ ∈ zT := zin 706 rfl rfl
set_option maxRecDepth 100000 in
theorem kl_m_101 : zLk "ArtifactBagsModel" ⟨"ArtifactBagsModel", "sort", "(I)I"⟩ 101 := Or.inl (zin 706 rfl rfl)
set_option maxRecDepth 100000 in
theorem kl9_m_105 : Cond.methodLink "ArtifactBagsModel" 105 ⟨"ArtifactBagsModel", "filesOf", "(II)I"⟩ ∈ zT := zin 647 rfl rfl
set_option maxRecDepth 100000 in
theorem kl_m_105 : zLk "ArtifactBagsModel" ⟨"ArtifactBagsModel", "filesOf", "(II)I"⟩ 105 := Or.inl (zin 647 rfl rfl)
set_option maxRecDepth 100000 in
theorem kl9_m_108 : Cond.methodLink "ArtifactBagsModel" 108 ⟨"ArtifactBagsModel", "has", "(III)Z"⟩ ∈ zT := zin 710 rfl rfl
set_option maxRecDepth 100000 in
theorem kl_m_108 : zLk "ArtifactBagsModel" ⟨"ArtifactBagsModel", "has", "(III)Z"⟩ 108 := Or.inl (zin 710 rfl rfl)
set_option maxRecDepth 100000 in
theorem kl9_m_111 : Cond.methodLink "ArtifactBagsModel" 111 ⟨"ArtifactBagsModel", "write", "(II)V"⟩ ∈ zT := zin 623 rfl rfl
set_option maxRecDepth 100000 in
theorem kl_m_111 : zLk "ArtifactBagsModel" ⟨"ArtifactBagsModel", "write", "(II)V"⟩ 111 := Or.inl (zin 623 rfl rfl)
set_option maxRecDepth 100000 in
theorem kl9_m_115 : Cond.methodLink "ArtifactBagsModel" 115 ⟨"ArtifactBagsModel", "isName", "(I)Z"⟩ ∈ zT := zin 606 rfl rfl
set_option maxRecDepth 100000 in
theorem kl_m_115 : zLk "ArtifactBagsModel" ⟨"ArtifactBagsModel", "isName", "(I)Z"⟩ 115 := Or.inl (zin 606 rfl rfl)
set_option maxRecDepth 100000 in
theorem kl9_m_118 : Cond.methodLink "ArtifactBagsModel" 118 ⟨"ArtifactBagsModel", "size", "(III)I"⟩ ∈ zT := zin 603 rfl rfl
set_option maxRecDepth 100000 in
theorem kl_m_118 : zLk "ArtifactBagsModel" ⟨"ArtifactBagsModel", "size", "(III)I"⟩ 118 := Or.inl (zin 603 rfl rfl)
set_option maxRecDepth 100000 in
theorem kl9_m_121 : Cond.methodLink "ArtifactBagsModel" 121 ⟨"ArtifactBagsModel", "letterOf", "(I)I"⟩ ∈ zT := zin 620 rfl rfl
set_option maxRecDepth 100000 in
theorem kl_m_121 : zLk "ArtifactBagsModel" ⟨"ArtifactBagsModel", "letterOf", "(I)I"⟩ 121 := Or.inl (zin 620 rfl rfl)
set_option maxRecDepth 100000 in
theorem kl9_m_124 : Cond.methodLink "ArtifactBagsModel" 124 ⟨"ArtifactBagsModel", "writeName", "(II)V"⟩ ∈ zT := zin 627 rfl rfl
set_option maxRecDepth 100000 in
theorem kl_m_124 : zLk "ArtifactBagsModel" ⟨"ArtifactBagsModel", "writeName", "(II)V"⟩ 124 := Or.inl (zin 627 rfl rfl)
set_option maxRecDepth 100000 in
theorem kl9_m_129 : Cond.methodLink "ArtifactBagsModel" 129 ⟨"ArtifactBagsModel", "isRepository", "(I)Z"⟩ ∈ zT := zin 644 rfl rfl
set_option maxRecDepth 100000 in
theorem kl_m_129 : zLk "ArtifactBagsModel" ⟨"ArtifactBagsModel", "isRepository", "(I)Z"⟩ 129 := Or.inl (zin 644 rfl rfl)
set_option maxRecDepth 100000 in
theorem kl9_m_132 : Cond.methodLink "ArtifactBagsModel" 132 ⟨"ArtifactBagsModel", "hold", "(III)V"⟩ ∈ zT := zin 686 rfl rfl
set_option maxRecDepth 100000 in
theorem kl_m_132 : zLk "ArtifactBagsModel" ⟨"ArtifactBagsModel", "hold", "(III)V"⟩ 132 := Or.inl (zin 686 rfl rfl)
set_option maxRecDepth 100000 in
theorem kl9_m_139 : Cond.methodLink "ArtifactBagsModel" 139 ⟨"ArtifactBagsModel", "clustered", "(II)Z"⟩ ∈ zT := zin 702 rfl rfl
set_option maxRecDepth 100000 in
theorem kl_m_139 : zLk "ArtifactBagsModel" ⟨"ArtifactBagsModel", "clustered", "(II)Z"⟩ 139 := Or.inl (zin 702 rfl rfl)
set_option maxRecDepth 100000 in
theorem kl9_m_142 : Cond.methodLink "ArtifactBagsModel" 142 ⟨"ArtifactBagsModel", "enlist", "(I)V"⟩ ∈ zT := zin 714 rfl rfl
set_option maxRecDepth 100000 in
theorem kl_m_142 : zLk "ArtifactBagsModel" ⟨"ArtifactBagsModel", "enlist", "(I)V"⟩ 142 := Or.inl (zin 714 rfl rfl)
set_option maxRecDepth 100000 in
theorem kl9_m_146 : Cond.methodLink "ArtifactBagsModel" 146 ⟨"ArtifactBagsModel", "lack", "(II)V"⟩ ∈ zT := zin 730 rfl rfl
set_option maxRecDepth 100000 in
theorem kl_m_146 : zLk "ArtifactBagsModel" ⟨"ArtifactBagsModel", "lack", "(II)V"⟩ 146 := Or.inl (zin 730 rfl rfl)
set_option maxRecDepth 100000 in
theorem kl9_m_149 : Cond.methodLink "ArtifactBagsModel" 149 ⟨"ArtifactBagsModel", "listLoose", "(I)V"⟩ ∈ zT := zin 698 rfl rfl
set_option maxRecDepth 100000 in
theorem kl_m_149 : zLk "ArtifactBagsModel" ⟨"ArtifactBagsModel", "listLoose", "(I)V"⟩ 149 := Or.inl (zin 698 rfl rfl)
set_option maxRecDepth 100000 in
theorem kl9_m_152 : Cond.methodLink "ArtifactBagsModel" 152 ⟨"ArtifactBagsModel", "tell", "(II)V"⟩ ∈ zT := zin 722 rfl rfl
set_option maxRecDepth 100000 in
theorem kl_m_152 : zLk "ArtifactBagsModel" ⟨"ArtifactBagsModel", "tell", "(II)V"⟩ 152 := Or.inl (zin 722 rfl rfl)
set_option maxRecDepth 100000 in
theorem kl9_m_155 : Cond.methodLink "ArtifactBagsModel" 155 ⟨"ArtifactBagsModel", "listWanted", "(I)V"⟩ ∈ zT := zin 726 rfl rfl
set_option maxRecDepth 100000 in
theorem kl_m_155 : zLk "ArtifactBagsModel" ⟨"ArtifactBagsModel", "listWanted", "(I)V"⟩ 155 := Or.inl (zin 726 rfl rfl)
set_option maxRecDepth 100000 in
theorem kl9_m_158 : Cond.methodLink "ArtifactBagsModel" 158 ⟨"ArtifactBagsModel", "makeCluster", "(I)V"⟩ ∈ zT := zin 694 rfl rfl
set_option maxRecDepth 100000 in
theorem kl_m_158 : zLk "ArtifactBagsModel" ⟨"ArtifactBagsModel", "makeCluster", "(I)V"⟩ 158 := Or.inl (zin 694 rfl rfl)
set_option maxRecDepth 100000 in
theorem kl9_m_161 : Cond.methodLink "ArtifactBagsModel" 161 ⟨"ArtifactBagsModel", "message", "(II)I"⟩ ∈ zT := zin 718 rfl rfl
set_option maxRecDepth 100000 in
theorem kl_m_161 : zLk "ArtifactBagsModel" ⟨"ArtifactBagsModel", "message", "(II)I"⟩ 161 := Or.inl (zin 718 rfl rfl)
set_option maxRecDepth 100000 in
theorem kl9_m_164 : Cond.methodLink "ArtifactBagsModel" 164 ⟨"ArtifactBagsModel", "isCheckIn", "(II)Z"⟩ ∈ zT := zin 762 rfl rfl
set_option maxRecDepth 100000 in
theorem kl_m_164 : zLk "ArtifactBagsModel" ⟨"ArtifactBagsModel", "isCheckIn", "(II)Z"⟩ 164 := Or.inl (zin 762 rfl rfl)
set_option maxRecDepth 100000 in
theorem kl9_m_167 : Cond.methodLink "ArtifactBagsModel" 167 ⟨"ArtifactBagsModel", "timeOf", "(I)I"⟩ ∈ zT := zin 770 rfl rfl
set_option maxRecDepth 100000 in
theorem kl_m_167 : zLk "ArtifactBagsModel" ⟨"ArtifactBagsModel", "timeOf", "(I)I"⟩ 167 := Or.inl (zin 770 rfl rfl)
set_option maxRecDepth 100000 in
theorem kl9_m_170 : Cond.methodLink "ArtifactBagsModel" 170 ⟨"ArtifactBagsModel", "children", "(II)I"⟩ ∈ zT := zin 782 rfl rfl
set_option maxRecDepth 100000 in
theorem kl_m_170 : zLk "ArtifactBagsModel" ⟨"ArtifactBagsModel", "children", "(II)I"⟩ 170 := Or.inl (zin 782 rfl rfl)
set_option maxRecDepth 100000 in
theorem kl9_m_173 : Cond.methodLink "ArtifactBagsModel" 173 ⟨"ArtifactBagsModel", "signOf", "(III)I"⟩ ∈ zT := zin 787 rfl rfl
set_option maxRecDepth 100000 in
theorem kl_m_173 : zLk "ArtifactBagsModel" ⟨"ArtifactBagsModel", "signOf", "(III)I"⟩ 173 := Or.inl (zin 787 rfl rfl)
set_option maxRecDepth 100000 in
theorem kl9_m_176 : Cond.methodLink "ArtifactBagsModel" 176 ⟨"ArtifactBagsModel", "checkIns", "(I)I"⟩ ∈ zT := zin 799 rfl rfl
set_option maxRecDepth 100000 in
theorem kl_m_176 : zLk "ArtifactBagsModel" ⟨"ArtifactBagsModel", "checkIns", "(I)I"⟩ 176 := Or.inl (zin 799 rfl rfl)
set_option maxRecDepth 100000 in
theorem kl9_J_150 : Cond.methodLink "java/util/Arrays" 150 ⟨"java/lang/System", "arraycopy", "(Ljava/lang/Object;ILjava/lang/Object;II)V"⟩ ∈ zT := zin 285 rfl rfl
set_option maxRecDepth 100000 in
theorem kl_J_150 : zLk "java/util/Arrays" ⟨"java/lang/System", "arraycopy", "(Ljava/lang/Object;ILjava/lang/Object;II)V"⟩ 150 := Or.inl (zin 285 rfl rfl)
set_option maxRecDepth 100000 in
theorem kl9_J_304 : Cond.methodLink "java/util/Arrays" 304 ⟨"java/lang/Math", "min", "(II)I"⟩ ∈ zT := zin 282 rfl rfl
set_option maxRecDepth 100000 in
theorem kl_J_304 : zLk "java/util/Arrays" ⟨"java/lang/Math", "min", "(II)I"⟩ 304 := Or.inl (zin 282 rfl rfl)
set_option maxRecDepth 100000 in
theorem kl9_J_310 : Cond.methodLink "java/util/Arrays" 310 ⟨"[B", "clone", "()Ljava/lang/Object;"⟩ ∈ zT := zin 275 rfl rfl
set_option maxRecDepth 100000 in
theorem kl_J_310 : zLk "java/util/Arrays" ⟨"[B", "clone", "()Ljava/lang/Object;"⟩ 310 := Or.inl (zin 275 rfl rfl)
set_option maxRecDepth 100000 in
theorem kl9_J_316 : Cond.methodLink "java/util/Arrays" 316 ⟨"[I", "clone", "()Ljava/lang/Object;"⟩ ∈ zT := zin 390 rfl rfl
set_option maxRecDepth 100000 in
theorem kl_J_316 : zLk "java/util/Arrays" ⟨"[I", "clone", "()Ljava/lang/Object;"⟩ 316 := Or.inl (zin 390 rfl rfl)
set_option maxRecDepth 100000 in
theorem nw_B_7 : zNew "ArtifactBags" 7 3 6 [.null, .int 0, .null, .null, .null, .null] := ⟨"ArtifactBags$Bag", zF_G, zt_G, zc_G, zin 20 rfl rfl, zin 21 rfl rfl, zin 2 rfl rfl, (by decide +kernel)⟩
set_option maxRecDepth 100000 in
theorem cl_B_7 : Cond.classLink "ArtifactBags" 7 "ArtifactBags$Bag" ∈ zT := zin 20 rfl rfl
set_option maxRecDepth 100000 in
theorem nw_B_19 : zNew "ArtifactBags" 19 7 2 [.null, .int 0] := ⟨"ArtifactBags$Row", zF_R, zt_R, zc_R, zin 81 rfl rfl, zin 82 rfl rfl, zin 5 rfl rfl, (by decide +kernel)⟩
set_option maxRecDepth 100000 in
theorem cl_B_19 : Cond.classLink "ArtifactBags" 19 "ArtifactBags$Row" ∈ zT := zin 81 rfl rfl
set_option maxRecDepth 100000 in
theorem nw_A_10 : zNew "ArtifactBags$Artifact" 10 2 6 [.null, .int 0, .int 0, .null, .int 0, .int 0] := ⟨"ArtifactBags$Artifact", zF_A, zt_A, zc_A, zin 314 rfl rfl, zin 315 rfl rfl, zin 8 rfl rfl, (by decide +kernel)⟩
set_option maxRecDepth 100000 in
theorem cl_A_10 : Cond.classLink "ArtifactBags$Artifact" 10 "ArtifactBags$Artifact" ∈ zT := zin 314 rfl rfl
set_option maxRecDepth 100000 in
theorem nw_A_64 : zNew "ArtifactBags$Artifact" 64 4 5 [.int 0, .int 0, .int 0, .int 0, .int 0] := ⟨"ArtifactBags$Card", zF_C, zt_C, zc_C, zin 291 rfl rfl, zin 204 rfl rfl, zin 7 rfl rfl, (by decide +kernel)⟩
set_option maxRecDepth 100000 in
theorem cl_A_64 : Cond.classLink "ArtifactBags$Artifact" 64 "ArtifactBags$Card" ∈ zT := zin 291 rfl rfl
set_option maxRecDepth 100000 in
theorem nw_G_9 : zNew "ArtifactBags$Bag" 9 2 6 [.null, .int 0, .int 0, .null, .int 0, .int 0] := ⟨"ArtifactBags$Artifact", zF_A, zt_A, zc_A, zin 26 rfl rfl, zin 315 rfl rfl, zin 8 rfl rfl, (by decide +kernel)⟩
set_option maxRecDepth 100000 in
theorem cl_G_9 : Cond.classLink "ArtifactBags$Bag" 9 "ArtifactBags$Artifact" ∈ zT := zin 26 rfl rfl
set_option maxRecDepth 100000 in
theorem nw_G_21 : zNew "ArtifactBags$Bag" 21 5 2 [.null, .int 0] := ⟨"ArtifactBags$History", zF_H, zt_H, zc_H, zin 28 rfl rfl, zin 29 rfl rfl, zin 3 rfl rfl, (by decide +kernel)⟩
set_option maxRecDepth 100000 in
theorem cl_G_21 : Cond.classLink "ArtifactBags$Bag" 21 "ArtifactBags$History" ∈ zT := zin 28 rfl rfl
set_option maxRecDepth 100000 in
theorem nw_G_28 : zNew "ArtifactBags$Bag" 28 6 2 [.null, .int 0] := ⟨"ArtifactBags$NameSet", zF_N, zt_N, zc_N, zin 43 rfl rfl, zin 44 rfl rfl, zin 4 rfl rfl, (by decide +kernel)⟩
set_option maxRecDepth 100000 in
theorem cl_G_28 : Cond.classLink "ArtifactBags$Bag" 28 "ArtifactBags$NameSet" ∈ zT := zin 43 rfl rfl
set_option maxRecDepth 100000 in
theorem nw_C_10 : zNew "ArtifactBags$Card" 10 4 5 [.int 0, .int 0, .int 0, .int 0, .int 0] := ⟨"ArtifactBags$Card", zF_C, zt_C, zc_C, zin 203 rfl rfl, zin 204 rfl rfl, zin 7 rfl rfl, (by decide +kernel)⟩
set_option maxRecDepth 100000 in
theorem cl_C_10 : Cond.classLink "ArtifactBags$Card" 10 "ArtifactBags$Card" ∈ zT := zin 203 rfl rfl
set_option maxRecDepth 100000 in
theorem nw_H_9 : zNew "ArtifactBags$History" 9 2 6 [.null, .int 0, .int 0, .null, .int 0, .int 0] := ⟨"ArtifactBags$Artifact", zF_A, zt_A, zc_A, zin 34 rfl rfl, zin 315 rfl rfl, zin 8 rfl rfl, (by decide +kernel)⟩
set_option maxRecDepth 100000 in
theorem cl_H_9 : Cond.classLink "ArtifactBags$History" 9 "ArtifactBags$Artifact" ∈ zT := zin 34 rfl rfl
set_option maxRecDepth 100000 in
theorem cl_J_311 : Cond.classLink "java/util/Arrays" 311 "[B" ∈ zT := zin 281 rfl rfl
set_option maxRecDepth 100000 in
theorem cl_J_317 : Cond.classLink "java/util/Arrays" 317 "[I" ∈ zT := zin 394 rfl rfl
set_option maxRecDepth 100000 in
theorem ct_B_166 : Jvm.Cond.constant "ArtifactBags" 166 (nI 16777215) ∈ zT := zin 125 rfl rfl
set_option maxRecDepth 100000 in
theorem ct_B_186 : Jvm.Cond.constantLong "ArtifactBags" 186 (lN 257) ∈ zT := zin 169 rfl rfl
set_option maxRecDepth 100000 in
theorem ct_B_188 : Jvm.Cond.constantLong "ArtifactBags" 188 (lN 16777213) ∈ zT := zin 170 rfl rfl
set_option maxRecDepth 100000 in
theorem ct_m_38 : Jvm.Cond.constantLong "ArtifactBagsModel" 38 (lN 257) ∈ zT := zin 614 rfl rfl
set_option maxRecDepth 100000 in
theorem ct_m_44 : Jvm.Cond.constantLong "ArtifactBagsModel" 44 (lN 16777213) ∈ zT := zin 619 rfl rfl
set_option maxRecDepth 100000 in
theorem ct_m_46 : Jvm.Cond.constant "ArtifactBagsModel" 46 (nI 16777215) ∈ zT := zin 609 rfl rfl
set_option maxRecDepth 100000 in
theorem ct_m_127 : Jvm.Cond.constantLong "ArtifactBagsModel" 127 (lN 255) ∈ zT := zin 635 rfl rfl
set_option maxRecDepth 100000 in
theorem ac_int : Cond.arrayClass .int ∈ zT := zin 57 rfl rfl
set_option maxRecDepth 100000 in
theorem ac_byte : Cond.arrayClass .byte ∈ zT := zin 98 rfl rfl
set_option maxRecDepth 100000 in
theorem oi_i : Cond.instanceMethod Lib.objectInit ∈ zT := zin 18 rfl rfl
set_option maxRecDepth 100000 in
theorem oi_c : Cond.code Lib.objectInit ⟨#[0xb1]⟩ 1 none ∈ zT := zin 19 rfl rfl
set_option maxRecDepth 100000 in
theorem cp_n : Cond.native arraycopyName ∈ zT := zin 287 rfl rfl
set_option maxRecDepth 100000 in
theorem cp_s : Cond.static arraycopyName ∈ zT := zin 286 rfl rfl
set_option maxRecDepth 100000 in
theorem cp_i : Cond.initialized "java/lang/System" ∈ zT := zin 11 rfl rfl
end
section
/-! Decode rows. Own work. -/
theorem d_m_init_0 : decode M_m_init.2.1 0 = .ok (.aload_n 0, 1) := by decide +kernel
theorem d_m_init_1 : decode M_m_init.2.1 1 = .ok (.invokespecial 1, 3) := by decide +kernel
theorem d_m_init_4 : decode M_m_init.2.1 4 = .ok (.aload_n 0, 1) := by decide +kernel
theorem d_m_init_5 : decode M_m_init.2.1 5 = .ok (.sipush 15840, 3) := by decide +kernel
theorem d_m_init_8 : decode M_m_init.2.1 8 = .ok (.newarray .byte, 2) := by decide +kernel
theorem d_m_init_10 : decode M_m_init.2.1 10 = .ok (.putfield 7, 3) := by decide +kernel
theorem d_m_init_13 : decode M_m_init.2.1 13 = .ok (.aload_n 0, 1) := by decide +kernel
theorem d_m_init_14 : decode M_m_init.2.1 14 = .ok (.bipush 66, 2) := by decide +kernel
theorem d_m_init_16 : decode M_m_init.2.1 16 = .ok (.newarray .int, 2) := by decide +kernel
theorem d_m_init_18 : decode M_m_init.2.1 18 = .ok (.putfield 13, 3) := by decide +kernel
theorem d_m_init_21 : decode M_m_init.2.1 21 = .ok (.aload_n 0, 1) := by decide +kernel
theorem d_m_init_22 : decode M_m_init.2.1 22 = .ok (.bipush 66, 2) := by decide +kernel
theorem d_m_init_24 : decode M_m_init.2.1 24 = .ok (.newarray .int, 2) := by decide +kernel
theorem d_m_init_26 : decode M_m_init.2.1 26 = .ok (.putfield 17, 3) := by decide +kernel
theorem d_m_init_29 : decode M_m_init.2.1 29 = .ok (.aload_n 0, 1) := by decide +kernel
theorem d_m_init_30 : decode M_m_init.2.1 30 = .ok (.iconst 2, 1) := by decide +kernel
theorem d_m_init_31 : decode M_m_init.2.1 31 = .ok (.newarray .int, 2) := by decide +kernel
theorem d_m_init_33 : decode M_m_init.2.1 33 = .ok (.putfield 20, 3) := by decide +kernel
theorem d_m_init_36 : decode M_m_init.2.1 36 = .ok (.aload_n 0, 1) := by decide +kernel
theorem d_m_init_37 : decode M_m_init.2.1 37 = .ok (.bipush 64, 2) := by decide +kernel
theorem d_m_init_39 : decode M_m_init.2.1 39 = .ok (.newarray .int, 2) := by decide +kernel
theorem d_m_init_41 : decode M_m_init.2.1 41 = .ok (.putfield 23, 3) := by decide +kernel
theorem d_m_init_44 : decode M_m_init.2.1 44 = .ok (.aload_n 0, 1) := by decide +kernel
theorem d_m_init_45 : decode M_m_init.2.1 45 = .ok (.iconst 2, 1) := by decide +kernel
theorem d_m_init_46 : decode M_m_init.2.1 46 = .ok (.newarray .int, 2) := by decide +kernel
theorem d_m_init_48 : decode M_m_init.2.1 48 = .ok (.putfield 26, 3) := by decide +kernel
theorem d_m_init_51 : decode M_m_init.2.1 51 = .ok (.aload_n 0, 1) := by decide +kernel
theorem d_m_init_52 : decode M_m_init.2.1 52 = .ok (.sipush 1800, 3) := by decide +kernel
theorem d_m_init_55 : decode M_m_init.2.1 55 = .ok (.newarray .int, 2) := by decide +kernel
theorem d_m_init_57 : decode M_m_init.2.1 57 = .ok (.putfield 29, 3) := by decide +kernel
theorem d_m_init_60 : decode M_m_init.2.1 60 = .ok (.aload_n 0, 1) := by decide +kernel
theorem d_m_init_61 : decode M_m_init.2.1 61 = .ok (.iconst 2, 1) := by decide +kernel
theorem d_m_init_62 : decode M_m_init.2.1 62 = .ok (.newarray .int, 2) := by decide +kernel
theorem d_m_init_64 : decode M_m_init.2.1 64 = .ok (.putfield 32, 3) := by decide +kernel
theorem d_m_init_67 : decode M_m_init.2.1 67 = .ok (.aload_n 0, 1) := by decide +kernel
theorem d_m_init_68 : decode M_m_init.2.1 68 = .ok (.sipush 900, 3) := by decide +kernel
theorem d_m_init_71 : decode M_m_init.2.1 71 = .ok (.newarray .int, 2) := by decide +kernel
theorem d_m_init_73 : decode M_m_init.2.1 73 = .ok (.putfield 35, 3) := by decide +kernel
theorem d_m_init_76 : decode M_m_init.2.1 76 = .ok (.return_, 1) := by decide +kernel
theorem d_m_card_0 : decode M_m_card.2.1 0 = .ok (.iload_n 1, 1) := by decide +kernel
theorem d_m_card_1 : decode M_m_card.2.1 1 = .ok (.iload_n 2, 1) := by decide +kernel
theorem d_m_card_2 : decode M_m_card.2.1 2 = .ok (.iload_n 3, 1) := by decide +kernel
theorem d_m_card_3 : decode M_m_card.2.1 3 = .ok (.invokestatic 118, 3) := by decide +kernel
theorem d_m_card_6 : decode M_m_card.2.1 6 = .ok (.istore 4, 2) := by decide +kernel
theorem d_m_card_8 : decode M_m_card.2.1 8 = .ok (.iload 4, 2) := by decide +kernel
theorem d_m_card_10 : decode M_m_card.2.1 10 = .ok (.ifCond .eq 19, 3) := by decide +kernel
theorem d_m_card_13 : decode M_m_card.2.1 13 = .ok (.aload_n 0, 1) := by decide +kernel
theorem d_m_card_14 : decode M_m_card.2.1 14 = .ok (.getfield 13, 3) := by decide +kernel
theorem d_m_card_17 : decode M_m_card.2.1 17 = .ok (.bipush 64, 2) := by decide +kernel
theorem d_m_card_19 : decode M_m_card.2.1 19 = .ok (.iaload, 1) := by decide +kernel
theorem d_m_card_20 : decode M_m_card.2.1 20 = .ok (.iload 4, 2) := by decide +kernel
theorem d_m_card_22 : decode M_m_card.2.1 22 = .ok (.iadd, 1) := by decide +kernel
theorem d_m_card_23 : decode M_m_card.2.1 23 = .ok (.sipush 240, 3) := by decide +kernel
theorem d_m_card_26 : decode M_m_card.2.1 26 = .ok (.if_icmp .le 5, 3) := by decide +kernel
theorem d_m_card_29 : decode M_m_card.2.1 29 = .ok (.iconst (-1), 1) := by decide +kernel
theorem d_m_card_30 : decode M_m_card.2.1 30 = .ok (.ireturn, 1) := by decide +kernel
theorem d_m_card_31 : decode M_m_card.2.1 31 = .ok (.aload_n 0, 1) := by decide +kernel
theorem d_m_card_32 : decode M_m_card.2.1 32 = .ok (.bipush 7, 2) := by decide +kernel
theorem d_m_card_34 : decode M_m_card.2.1 34 = .ok (.bipush 64, 2) := by decide +kernel
theorem d_m_card_36 : decode M_m_card.2.1 36 = .ok (.aload_n 0, 1) := by decide +kernel
theorem d_m_card_37 : decode M_m_card.2.1 37 = .ok (.getfield 13, 3) := by decide +kernel
theorem d_m_card_40 : decode M_m_card.2.1 40 = .ok (.bipush 64, 2) := by decide +kernel
theorem d_m_card_42 : decode M_m_card.2.1 42 = .ok (.iaload, 1) := by decide +kernel
theorem d_m_card_43 : decode M_m_card.2.1 43 = .ok (.invokevirtual 94, 3) := by decide +kernel
theorem d_m_card_46 : decode M_m_card.2.1 46 = .ok (.istore 5, 2) := by decide +kernel
theorem d_m_card_48 : decode M_m_card.2.1 48 = .ok (.aload_n 0, 1) := by decide +kernel
theorem d_m_card_49 : decode M_m_card.2.1 49 = .ok (.bipush 64, 2) := by decide +kernel
theorem d_m_card_51 : decode M_m_card.2.1 51 = .ok (.iload_n 1, 1) := by decide +kernel
theorem d_m_card_52 : decode M_m_card.2.1 52 = .ok (.invokestatic 121, 3) := by decide +kernel
theorem d_m_card_55 : decode M_m_card.2.1 55 = .ok (.invokevirtual 111, 3) := by decide +kernel
theorem d_m_card_58 : decode M_m_card.2.1 58 = .ok (.aload_n 0, 1) := by decide +kernel
theorem d_m_card_59 : decode M_m_card.2.1 59 = .ok (.bipush 64, 2) := by decide +kernel
theorem d_m_card_61 : decode M_m_card.2.1 61 = .ok (.bipush 32, 2) := by decide +kernel
theorem d_m_card_63 : decode M_m_card.2.1 63 = .ok (.invokevirtual 111, 3) := by decide +kernel
theorem d_m_card_66 : decode M_m_card.2.1 66 = .ok (.iload_n 1, 1) := by decide +kernel
theorem d_m_card_67 : decode M_m_card.2.1 67 = .ok (.ifCond .ne 55, 3) := by decide +kernel
theorem d_m_card_70 : decode M_m_card.2.1 70 = .ok (.sipush 1000, 3) := by decide +kernel
theorem d_m_card_73 : decode M_m_card.2.1 73 = .ok (.istore 6, 2) := by decide +kernel
theorem d_m_card_75 : decode M_m_card.2.1 75 = .ok (.iload 6, 2) := by decide +kernel
theorem d_m_card_77 : decode M_m_card.2.1 77 = .ok (.iconst 1, 1) := by decide +kernel
theorem d_m_card_78 : decode M_m_card.2.1 78 = .ok (.if_icmp .lt 41, 3) := by decide +kernel
theorem d_m_card_81 : decode M_m_card.2.1 81 = .ok (.iload_n 2, 1) := by decide +kernel
theorem d_m_card_82 : decode M_m_card.2.1 82 = .ok (.iload 6, 2) := by decide +kernel
theorem d_m_card_84 : decode M_m_card.2.1 84 = .ok (.if_icmp .ge 9, 3) := by decide +kernel
theorem d_m_card_87 : decode M_m_card.2.1 87 = .ok (.iload 6, 2) := by decide +kernel
theorem d_m_card_89 : decode M_m_card.2.1 89 = .ok (.iconst 1, 1) := by decide +kernel
theorem d_m_card_90 : decode M_m_card.2.1 90 = .ok (.if_icmp .ne 19, 3) := by decide +kernel
theorem d_m_card_93 : decode M_m_card.2.1 93 = .ok (.aload_n 0, 1) := by decide +kernel
theorem d_m_card_94 : decode M_m_card.2.1 94 = .ok (.bipush 64, 2) := by decide +kernel
theorem d_m_card_96 : decode M_m_card.2.1 96 = .ok (.bipush 48, 2) := by decide +kernel
theorem d_m_card_98 : decode M_m_card.2.1 98 = .ok (.iload_n 2, 1) := by decide +kernel
theorem d_m_card_99 : decode M_m_card.2.1 99 = .ok (.iload 6, 2) := by decide +kernel
theorem d_m_card_101 : decode M_m_card.2.1 101 = .ok (.idiv, 1) := by decide +kernel
theorem d_m_card_102 : decode M_m_card.2.1 102 = .ok (.bipush 10, 2) := by decide +kernel
theorem d_m_card_104 : decode M_m_card.2.1 104 = .ok (.irem, 1) := by decide +kernel
theorem d_m_card_105 : decode M_m_card.2.1 105 = .ok (.iadd, 1) := by decide +kernel
theorem d_m_card_106 : decode M_m_card.2.1 106 = .ok (.invokevirtual 111, 3) := by decide +kernel
theorem d_m_card_109 : decode M_m_card.2.1 109 = .ok (.iload 6, 2) := by decide +kernel
theorem d_m_card_111 : decode M_m_card.2.1 111 = .ok (.bipush 10, 2) := by decide +kernel
theorem d_m_card_113 : decode M_m_card.2.1 113 = .ok (.idiv, 1) := by decide +kernel
theorem d_m_card_114 : decode M_m_card.2.1 114 = .ok (.istore 6, 2) := by decide +kernel
theorem d_m_card_116 : decode M_m_card.2.1 116 = .ok (.goto (-41), 3) := by decide +kernel
theorem d_m_card_119 : decode M_m_card.2.1 119 = .ok (.goto 155, 3) := by decide +kernel
theorem d_m_card_122 : decode M_m_card.2.1 122 = .ok (.iload_n 1, 1) := by decide +kernel
theorem d_m_card_123 : decode M_m_card.2.1 123 = .ok (.iconst 1, 1) := by decide +kernel
theorem d_m_card_124 : decode M_m_card.2.1 124 = .ok (.if_icmp .ne 31, 3) := by decide +kernel
theorem d_m_card_127 : decode M_m_card.2.1 127 = .ok (.aload_n 0, 1) := by decide +kernel
theorem d_m_card_128 : decode M_m_card.2.1 128 = .ok (.bipush 64, 2) := by decide +kernel
theorem d_m_card_130 : decode M_m_card.2.1 130 = .ok (.bipush 48, 2) := by decide +kernel
theorem d_m_card_132 : decode M_m_card.2.1 132 = .ok (.iload_n 2, 1) := by decide +kernel
theorem d_m_card_133 : decode M_m_card.2.1 133 = .ok (.iadd, 1) := by decide +kernel
theorem d_m_card_134 : decode M_m_card.2.1 134 = .ok (.invokevirtual 111, 3) := by decide +kernel
theorem d_m_card_137 : decode M_m_card.2.1 137 = .ok (.aload_n 0, 1) := by decide +kernel
theorem d_m_card_138 : decode M_m_card.2.1 138 = .ok (.bipush 64, 2) := by decide +kernel
theorem d_m_card_140 : decode M_m_card.2.1 140 = .ok (.bipush 32, 2) := by decide +kernel
theorem d_m_card_142 : decode M_m_card.2.1 142 = .ok (.invokevirtual 111, 3) := by decide +kernel
theorem d_m_card_145 : decode M_m_card.2.1 145 = .ok (.aload_n 0, 1) := by decide +kernel
theorem d_m_card_146 : decode M_m_card.2.1 146 = .ok (.bipush 64, 2) := by decide +kernel
theorem d_m_card_148 : decode M_m_card.2.1 148 = .ok (.iload_n 3, 1) := by decide +kernel
theorem d_m_card_149 : decode M_m_card.2.1 149 = .ok (.invokevirtual 124, 3) := by decide +kernel
theorem d_m_card_152 : decode M_m_card.2.1 152 = .ok (.goto 122, 3) := by decide +kernel
theorem d_m_card_155 : decode M_m_card.2.1 155 = .ok (.iload_n 1, 1) := by decide +kernel
theorem d_m_card_156 : decode M_m_card.2.1 156 = .ok (.iconst 5, 1) := by decide +kernel
theorem d_m_card_157 : decode M_m_card.2.1 157 = .ok (.if_icmp .ne 74, 3) := by decide +kernel
theorem d_m_card_160 : decode M_m_card.2.1 160 = .ok (.aload_n 0, 1) := by decide +kernel
theorem d_m_card_161 : decode M_m_card.2.1 161 = .ok (.bipush 64, 2) := by decide +kernel
theorem d_m_card_163 : decode M_m_card.2.1 163 = .ok (.iload_n 2, 1) := by decide +kernel
theorem d_m_card_164 : decode M_m_card.2.1 164 = .ok (.ifCond .lt 8, 3) := by decide +kernel
theorem d_m_card_167 : decode M_m_card.2.1 167 = .ok (.bipush 43, 2) := by decide +kernel
theorem d_m_card_169 : decode M_m_card.2.1 169 = .ok (.goto 5, 3) := by decide +kernel
theorem d_m_card_172 : decode M_m_card.2.1 172 = .ok (.bipush 45, 2) := by decide +kernel
theorem d_m_card_174 : decode M_m_card.2.1 174 = .ok (.invokevirtual 111, 3) := by decide +kernel
theorem d_m_card_177 : decode M_m_card.2.1 177 = .ok (.aload_n 0, 1) := by decide +kernel
theorem d_m_card_178 : decode M_m_card.2.1 178 = .ok (.bipush 64, 2) := by decide +kernel
theorem d_m_card_180 : decode M_m_card.2.1 180 = .ok (.bipush 48, 2) := by decide +kernel
theorem d_m_card_182 : decode M_m_card.2.1 182 = .ok (.iload_n 2, 1) := by decide +kernel
theorem d_m_card_183 : decode M_m_card.2.1 183 = .ok (.ifCond .lt 7, 3) := by decide +kernel
theorem d_m_card_186 : decode M_m_card.2.1 186 = .ok (.iload_n 2, 1) := by decide +kernel
theorem d_m_card_187 : decode M_m_card.2.1 187 = .ok (.goto 6, 3) := by decide +kernel
theorem d_m_card_190 : decode M_m_card.2.1 190 = .ok (.iconst (-1), 1) := by decide +kernel
theorem d_m_card_191 : decode M_m_card.2.1 191 = .ok (.iload_n 2, 1) := by decide +kernel
theorem d_m_card_192 : decode M_m_card.2.1 192 = .ok (.isub, 1) := by decide +kernel
theorem d_m_card_193 : decode M_m_card.2.1 193 = .ok (.iadd, 1) := by decide +kernel
theorem d_m_card_194 : decode M_m_card.2.1 194 = .ok (.invokevirtual 111, 3) := by decide +kernel
theorem d_m_card_197 : decode M_m_card.2.1 197 = .ok (.aload_n 0, 1) := by decide +kernel
theorem d_m_card_198 : decode M_m_card.2.1 198 = .ok (.bipush 64, 2) := by decide +kernel
theorem d_m_card_200 : decode M_m_card.2.1 200 = .ok (.bipush 32, 2) := by decide +kernel
theorem d_m_card_202 : decode M_m_card.2.1 202 = .ok (.invokevirtual 111, 3) := by decide +kernel
theorem d_m_card_205 : decode M_m_card.2.1 205 = .ok (.iload_n 3, 1) := by decide +kernel
theorem d_m_card_206 : decode M_m_card.2.1 206 = .ok (.iconst (-1), 1) := by decide +kernel
theorem d_m_card_207 : decode M_m_card.2.1 207 = .ok (.if_icmp .ne 14, 3) := by decide +kernel
theorem d_m_card_210 : decode M_m_card.2.1 210 = .ok (.aload_n 0, 1) := by decide +kernel
theorem d_m_card_211 : decode M_m_card.2.1 211 = .ok (.bipush 64, 2) := by decide +kernel
theorem d_m_card_213 : decode M_m_card.2.1 213 = .ok (.bipush 42, 2) := by decide +kernel
theorem d_m_card_215 : decode M_m_card.2.1 215 = .ok (.invokevirtual 111, 3) := by decide +kernel
theorem d_m_card_218 : decode M_m_card.2.1 218 = .ok (.goto 56, 3) := by decide +kernel
theorem d_m_card_221 : decode M_m_card.2.1 221 = .ok (.aload_n 0, 1) := by decide +kernel
theorem d_m_card_222 : decode M_m_card.2.1 222 = .ok (.bipush 64, 2) := by decide +kernel
theorem d_m_card_224 : decode M_m_card.2.1 224 = .ok (.iload_n 3, 1) := by decide +kernel
theorem d_m_card_225 : decode M_m_card.2.1 225 = .ok (.invokevirtual 124, 3) := by decide +kernel
theorem d_m_card_228 : decode M_m_card.2.1 228 = .ok (.goto 46, 3) := by decide +kernel
theorem d_m_card_231 : decode M_m_card.2.1 231 = .ok (.aload_n 0, 1) := by decide +kernel
theorem d_m_card_232 : decode M_m_card.2.1 232 = .ok (.bipush 64, 2) := by decide +kernel
theorem d_m_card_234 : decode M_m_card.2.1 234 = .ok (.iload_n 1, 1) := by decide +kernel
theorem d_m_card_235 : decode M_m_card.2.1 235 = .ok (.bipush 6, 2) := by decide +kernel
theorem d_m_card_237 : decode M_m_card.2.1 237 = .ok (.if_icmp .ne 8, 3) := by decide +kernel
theorem d_m_card_240 : decode M_m_card.2.1 240 = .ok (.iload 5, 2) := by decide +kernel
theorem d_m_card_242 : decode M_m_card.2.1 242 = .ok (.goto 4, 3) := by decide +kernel
theorem d_m_card_245 : decode M_m_card.2.1 245 = .ok (.iload_n 2, 1) := by decide +kernel
theorem d_m_card_246 : decode M_m_card.2.1 246 = .ok (.invokevirtual 124, 3) := by decide +kernel
theorem d_m_card_249 : decode M_m_card.2.1 249 = .ok (.iload_n 1, 1) := by decide +kernel
theorem d_m_card_250 : decode M_m_card.2.1 250 = .ok (.iconst 3, 1) := by decide +kernel
theorem d_m_card_251 : decode M_m_card.2.1 251 = .ok (.if_icmp .ne 23, 3) := by decide +kernel
theorem d_m_card_254 : decode M_m_card.2.1 254 = .ok (.iload_n 3, 1) := by decide +kernel
theorem d_m_card_255 : decode M_m_card.2.1 255 = .ok (.iconst (-1), 1) := by decide +kernel
theorem d_m_card_256 : decode M_m_card.2.1 256 = .ok (.if_icmp .eq 18, 3) := by decide +kernel
theorem d_m_card_259 : decode M_m_card.2.1 259 = .ok (.aload_n 0, 1) := by decide +kernel
theorem d_m_card_260 : decode M_m_card.2.1 260 = .ok (.bipush 64, 2) := by decide +kernel
theorem d_m_card_262 : decode M_m_card.2.1 262 = .ok (.bipush 32, 2) := by decide +kernel
theorem d_m_card_264 : decode M_m_card.2.1 264 = .ok (.invokevirtual 111, 3) := by decide +kernel
theorem d_m_card_267 : decode M_m_card.2.1 267 = .ok (.aload_n 0, 1) := by decide +kernel
theorem d_m_card_268 : decode M_m_card.2.1 268 = .ok (.bipush 64, 2) := by decide +kernel
theorem d_m_card_270 : decode M_m_card.2.1 270 = .ok (.iload_n 3, 1) := by decide +kernel
theorem d_m_card_271 : decode M_m_card.2.1 271 = .ok (.invokevirtual 124, 3) := by decide +kernel
theorem d_m_card_274 : decode M_m_card.2.1 274 = .ok (.aload_n 0, 1) := by decide +kernel
theorem d_m_card_275 : decode M_m_card.2.1 275 = .ok (.bipush 64, 2) := by decide +kernel
theorem d_m_card_277 : decode M_m_card.2.1 277 = .ok (.bipush 10, 2) := by decide +kernel
theorem d_m_card_279 : decode M_m_card.2.1 279 = .ok (.invokevirtual 111, 3) := by decide +kernel
theorem d_m_card_282 : decode M_m_card.2.1 282 = .ok (.aload_n 0, 1) := by decide +kernel
theorem d_m_card_283 : decode M_m_card.2.1 283 = .ok (.getfield 13, 3) := by decide +kernel
theorem d_m_card_286 : decode M_m_card.2.1 286 = .ok (.bipush 64, 2) := by decide +kernel
theorem d_m_card_288 : decode M_m_card.2.1 288 = .ok (.iaload, 1) := by decide +kernel
theorem d_m_card_289 : decode M_m_card.2.1 289 = .ok (.ireturn, 1) := by decide +kernel
theorem d_m_size_0 : decode M_m_size.2.1 0 = .ok (.iload_n 0, 1) := by decide +kernel
theorem d_m_size_1 : decode M_m_size.2.1 1 = .ok (.ifCond .ne 53, 3) := by decide +kernel
theorem d_m_size_4 : decode M_m_size.2.1 4 = .ok (.iload_n 1, 1) := by decide +kernel
theorem d_m_size_5 : decode M_m_size.2.1 5 = .ok (.ifCond .lt 10, 3) := by decide +kernel
theorem d_m_size_8 : decode M_m_size.2.1 8 = .ok (.iload_n 1, 1) := by decide +kernel
theorem d_m_size_9 : decode M_m_size.2.1 9 = .ok (.sipush 9999, 3) := by decide +kernel
theorem d_m_size_12 : decode M_m_size.2.1 12 = .ok (.if_icmp .le 7, 3) := by decide +kernel
theorem d_m_size_15 : decode M_m_size.2.1 15 = .ok (.iconst 0, 1) := by decide +kernel
theorem d_m_size_16 : decode M_m_size.2.1 16 = .ok (.goto 37, 3) := by decide +kernel
theorem d_m_size_19 : decode M_m_size.2.1 19 = .ok (.iload_n 1, 1) := by decide +kernel
theorem d_m_size_20 : decode M_m_size.2.1 20 = .ok (.bipush 10, 2) := by decide +kernel
theorem d_m_size_22 : decode M_m_size.2.1 22 = .ok (.if_icmp .ge 7, 3) := by decide +kernel
theorem d_m_size_25 : decode M_m_size.2.1 25 = .ok (.iconst 4, 1) := by decide +kernel
theorem d_m_size_26 : decode M_m_size.2.1 26 = .ok (.goto 27, 3) := by decide +kernel
theorem d_m_size_29 : decode M_m_size.2.1 29 = .ok (.iload_n 1, 1) := by decide +kernel
theorem d_m_size_30 : decode M_m_size.2.1 30 = .ok (.bipush 100, 2) := by decide +kernel
theorem d_m_size_32 : decode M_m_size.2.1 32 = .ok (.if_icmp .ge 7, 3) := by decide +kernel
theorem d_m_size_35 : decode M_m_size.2.1 35 = .ok (.iconst 5, 1) := by decide +kernel
theorem d_m_size_36 : decode M_m_size.2.1 36 = .ok (.goto 17, 3) := by decide +kernel
theorem d_m_size_39 : decode M_m_size.2.1 39 = .ok (.iload_n 1, 1) := by decide +kernel
theorem d_m_size_40 : decode M_m_size.2.1 40 = .ok (.sipush 1000, 3) := by decide +kernel
theorem d_m_size_43 : decode M_m_size.2.1 43 = .ok (.if_icmp .ge 8, 3) := by decide +kernel
theorem d_m_size_46 : decode M_m_size.2.1 46 = .ok (.bipush 6, 2) := by decide +kernel
theorem d_m_size_48 : decode M_m_size.2.1 48 = .ok (.goto 5, 3) := by decide +kernel
theorem d_m_size_51 : decode M_m_size.2.1 51 = .ok (.bipush 7, 2) := by decide +kernel
theorem d_m_size_53 : decode M_m_size.2.1 53 = .ok (.ireturn, 1) := by decide +kernel
theorem d_m_size_54 : decode M_m_size.2.1 54 = .ok (.iload_n 0, 1) := by decide +kernel
theorem d_m_size_55 : decode M_m_size.2.1 55 = .ok (.iconst 1, 1) := by decide +kernel
theorem d_m_size_56 : decode M_m_size.2.1 56 = .ok (.if_icmp .ne 27, 3) := by decide +kernel
theorem d_m_size_59 : decode M_m_size.2.1 59 = .ok (.iload_n 1, 1) := by decide +kernel
theorem d_m_size_60 : decode M_m_size.2.1 60 = .ok (.ifCond .lt 21, 3) := by decide +kernel
theorem d_m_size_63 : decode M_m_size.2.1 63 = .ok (.iload_n 1, 1) := by decide +kernel
theorem d_m_size_64 : decode M_m_size.2.1 64 = .ok (.bipush 9, 2) := by decide +kernel
theorem d_m_size_66 : decode M_m_size.2.1 66 = .ok (.if_icmp .gt 15, 3) := by decide +kernel
theorem d_m_size_69 : decode M_m_size.2.1 69 = .ok (.iload_n 2, 1) := by decide +kernel
theorem d_m_size_70 : decode M_m_size.2.1 70 = .ok (.invokestatic 115, 3) := by decide +kernel
theorem d_m_size_73 : decode M_m_size.2.1 73 = .ok (.ifCond .eq 8, 3) := by decide +kernel
theorem d_m_size_76 : decode M_m_size.2.1 76 = .ok (.bipush 11, 2) := by decide +kernel
theorem d_m_size_78 : decode M_m_size.2.1 78 = .ok (.goto 4, 3) := by decide +kernel
theorem d_m_size_81 : decode M_m_size.2.1 81 = .ok (.iconst 0, 1) := by decide +kernel
theorem d_m_size_82 : decode M_m_size.2.1 82 = .ok (.ireturn, 1) := by decide +kernel
theorem d_m_size_83 : decode M_m_size.2.1 83 = .ok (.iload_n 0, 1) := by decide +kernel
theorem d_m_size_84 : decode M_m_size.2.1 84 = .ok (.iconst 2, 1) := by decide +kernel
theorem d_m_size_85 : decode M_m_size.2.1 85 = .ok (.if_icmp .eq 8, 3) := by decide +kernel
theorem d_m_size_88 : decode M_m_size.2.1 88 = .ok (.iload_n 0, 1) := by decide +kernel
theorem d_m_size_89 : decode M_m_size.2.1 89 = .ok (.iconst 4, 1) := by decide +kernel
theorem d_m_size_90 : decode M_m_size.2.1 90 = .ok (.if_icmp .ne 17, 3) := by decide +kernel
theorem d_m_size_93 : decode M_m_size.2.1 93 = .ok (.iload_n 1, 1) := by decide +kernel
theorem d_m_size_94 : decode M_m_size.2.1 94 = .ok (.invokestatic 115, 3) := by decide +kernel
theorem d_m_size_97 : decode M_m_size.2.1 97 = .ok (.ifCond .eq 8, 3) := by decide +kernel
theorem d_m_size_100 : decode M_m_size.2.1 100 = .ok (.bipush 9, 2) := by decide +kernel
theorem d_m_size_102 : decode M_m_size.2.1 102 = .ok (.goto 4, 3) := by decide +kernel
theorem d_m_size_105 : decode M_m_size.2.1 105 = .ok (.iconst 0, 1) := by decide +kernel
theorem d_m_size_106 : decode M_m_size.2.1 106 = .ok (.ireturn, 1) := by decide +kernel
theorem d_m_size_107 : decode M_m_size.2.1 107 = .ok (.iload_n 0, 1) := by decide +kernel
theorem d_m_size_108 : decode M_m_size.2.1 108 = .ok (.iconst 3, 1) := by decide +kernel
theorem d_m_size_109 : decode M_m_size.2.1 109 = .ok (.if_icmp .ne 43, 3) := by decide +kernel
theorem d_m_size_112 : decode M_m_size.2.1 112 = .ok (.iload_n 1, 1) := by decide +kernel
theorem d_m_size_113 : decode M_m_size.2.1 113 = .ok (.invokestatic 115, 3) := by decide +kernel
theorem d_m_size_116 : decode M_m_size.2.1 116 = .ok (.ifCond .ne 7, 3) := by decide +kernel
theorem d_m_size_119 : decode M_m_size.2.1 119 = .ok (.iconst 0, 1) := by decide +kernel
theorem d_m_size_120 : decode M_m_size.2.1 120 = .ok (.goto 31, 3) := by decide +kernel
theorem d_m_size_123 : decode M_m_size.2.1 123 = .ok (.iload_n 2, 1) := by decide +kernel
theorem d_m_size_124 : decode M_m_size.2.1 124 = .ok (.iconst (-1), 1) := by decide +kernel
theorem d_m_size_125 : decode M_m_size.2.1 125 = .ok (.if_icmp .ne 8, 3) := by decide +kernel
theorem d_m_size_128 : decode M_m_size.2.1 128 = .ok (.bipush 9, 2) := by decide +kernel
theorem d_m_size_130 : decode M_m_size.2.1 130 = .ok (.goto 21, 3) := by decide +kernel
theorem d_m_size_133 : decode M_m_size.2.1 133 = .ok (.iload_n 2, 1) := by decide +kernel
theorem d_m_size_134 : decode M_m_size.2.1 134 = .ok (.invokestatic 115, 3) := by decide +kernel
theorem d_m_size_137 : decode M_m_size.2.1 137 = .ok (.ifCond .eq 13, 3) := by decide +kernel
theorem d_m_size_140 : decode M_m_size.2.1 140 = .ok (.iload_n 1, 1) := by decide +kernel
theorem d_m_size_141 : decode M_m_size.2.1 141 = .ok (.iload_n 2, 1) := by decide +kernel
theorem d_m_size_142 : decode M_m_size.2.1 142 = .ok (.if_icmp .eq 8, 3) := by decide +kernel
theorem d_m_size_145 : decode M_m_size.2.1 145 = .ok (.bipush 16, 2) := by decide +kernel
theorem d_m_size_147 : decode M_m_size.2.1 147 = .ok (.goto 4, 3) := by decide +kernel
theorem d_m_size_150 : decode M_m_size.2.1 150 = .ok (.iconst 0, 1) := by decide +kernel
theorem d_m_size_151 : decode M_m_size.2.1 151 = .ok (.ireturn, 1) := by decide +kernel
theorem d_m_size_152 : decode M_m_size.2.1 152 = .ok (.iload_n 0, 1) := by decide +kernel
theorem d_m_size_153 : decode M_m_size.2.1 153 = .ok (.iconst 5, 1) := by decide +kernel
theorem d_m_size_154 : decode M_m_size.2.1 154 = .ok (.if_icmp .ne 43, 3) := by decide +kernel
theorem d_m_size_157 : decode M_m_size.2.1 157 = .ok (.iload_n 1, 1) := by decide +kernel
theorem d_m_size_158 : decode M_m_size.2.1 158 = .ok (.bipush (-10), 2) := by decide +kernel
theorem d_m_size_160 : decode M_m_size.2.1 160 = .ok (.if_icmp .lt 9, 3) := by decide +kernel
theorem d_m_size_163 : decode M_m_size.2.1 163 = .ok (.iload_n 1, 1) := by decide +kernel
theorem d_m_size_164 : decode M_m_size.2.1 164 = .ok (.bipush 9, 2) := by decide +kernel
theorem d_m_size_166 : decode M_m_size.2.1 166 = .ok (.if_icmp .le 7, 3) := by decide +kernel
theorem d_m_size_169 : decode M_m_size.2.1 169 = .ok (.iconst 0, 1) := by decide +kernel
theorem d_m_size_170 : decode M_m_size.2.1 170 = .ok (.goto 26, 3) := by decide +kernel
theorem d_m_size_173 : decode M_m_size.2.1 173 = .ok (.iload_n 2, 1) := by decide +kernel
theorem d_m_size_174 : decode M_m_size.2.1 174 = .ok (.iconst (-1), 1) := by decide +kernel
theorem d_m_size_175 : decode M_m_size.2.1 175 = .ok (.if_icmp .ne 8, 3) := by decide +kernel
theorem d_m_size_178 : decode M_m_size.2.1 178 = .ok (.bipush 7, 2) := by decide +kernel
theorem d_m_size_180 : decode M_m_size.2.1 180 = .ok (.goto 16, 3) := by decide +kernel
theorem d_m_size_183 : decode M_m_size.2.1 183 = .ok (.iload_n 2, 1) := by decide +kernel
theorem d_m_size_184 : decode M_m_size.2.1 184 = .ok (.invokestatic 115, 3) := by decide +kernel
theorem d_m_size_187 : decode M_m_size.2.1 187 = .ok (.ifCond .eq 8, 3) := by decide +kernel
theorem d_m_size_190 : decode M_m_size.2.1 190 = .ok (.bipush 12, 2) := by decide +kernel
theorem d_m_size_192 : decode M_m_size.2.1 192 = .ok (.goto 4, 3) := by decide +kernel
theorem d_m_size_195 : decode M_m_size.2.1 195 = .ok (.iconst 0, 1) := by decide +kernel
theorem d_m_size_196 : decode M_m_size.2.1 196 = .ok (.ireturn, 1) := by decide +kernel
theorem d_m_size_197 : decode M_m_size.2.1 197 = .ok (.iload_n 0, 1) := by decide +kernel
theorem d_m_size_198 : decode M_m_size.2.1 198 = .ok (.bipush 6, 2) := by decide +kernel
theorem d_m_size_200 : decode M_m_size.2.1 200 = .ok (.if_icmp .ne 8, 3) := by decide +kernel
theorem d_m_size_203 : decode M_m_size.2.1 203 = .ok (.bipush 9, 2) := by decide +kernel
theorem d_m_size_205 : decode M_m_size.2.1 205 = .ok (.goto 4, 3) := by decide +kernel
theorem d_m_size_208 : decode M_m_size.2.1 208 = .ok (.iconst 0, 1) := by decide +kernel
theorem d_m_size_209 : decode M_m_size.2.1 209 = .ok (.ireturn, 1) := by decide +kernel
theorem d_m_isName_0 : decode M_m_isName.2.1 0 = .ok (.iload_n 0, 1) := by decide +kernel
theorem d_m_isName_1 : decode M_m_isName.2.1 1 = .ok (.ifCond .lt 13, 3) := by decide +kernel
theorem d_m_isName_4 : decode M_m_isName.2.1 4 = .ok (.iload_n 0, 1) := by decide +kernel
theorem d_m_isName_5 : decode M_m_isName.2.1 5 = .ok (.ldc 46, 2) := by decide +kernel
theorem d_m_isName_7 : decode M_m_isName.2.1 7 = .ok (.if_icmp .gt 7, 3) := by decide +kernel
theorem d_m_isName_10 : decode M_m_isName.2.1 10 = .ok (.iconst 1, 1) := by decide +kernel
theorem d_m_isName_11 : decode M_m_isName.2.1 11 = .ok (.goto 4, 3) := by decide +kernel
theorem d_m_isName_14 : decode M_m_isName.2.1 14 = .ok (.iconst 0, 1) := by decide +kernel
theorem d_m_isName_15 : decode M_m_isName.2.1 15 = .ok (.ireturn, 1) := by decide +kernel
theorem d_m_digest_0 : decode M_m_digest.2.1 0 = .ok (.iload_n 1, 1) := by decide +kernel
theorem d_m_digest_1 : decode M_m_digest.2.1 1 = .ok (.i2l, 1) := by decide +kernel
theorem d_m_digest_2 : decode M_m_digest.2.1 2 = .ok (.lstore 4, 2) := by decide +kernel
theorem d_m_digest_4 : decode M_m_digest.2.1 4 = .ok (.iconst 0, 1) := by decide +kernel
theorem d_m_digest_5 : decode M_m_digest.2.1 5 = .ok (.istore 6, 2) := by decide +kernel
theorem d_m_digest_7 : decode M_m_digest.2.1 7 = .ok (.iload 6, 2) := by decide +kernel
theorem d_m_digest_9 : decode M_m_digest.2.1 9 = .ok (.iload_n 3, 1) := by decide +kernel
theorem d_m_digest_10 : decode M_m_digest.2.1 10 = .ok (.if_icmp .ge 32, 3) := by decide +kernel
theorem d_m_digest_13 : decode M_m_digest.2.1 13 = .ok (.ldc2_w 38, 3) := by decide +kernel
theorem d_m_digest_16 : decode M_m_digest.2.1 16 = .ok (.lload 4, 2) := by decide +kernel
theorem d_m_digest_18 : decode M_m_digest.2.1 18 = .ok (.lmul, 1) := by decide +kernel
theorem d_m_digest_19 : decode M_m_digest.2.1 19 = .ok (.aload_n 0, 1) := by decide +kernel
theorem d_m_digest_20 : decode M_m_digest.2.1 20 = .ok (.iload_n 2, 1) := by decide +kernel
theorem d_m_digest_21 : decode M_m_digest.2.1 21 = .ok (.iload 6, 2) := by decide +kernel
theorem d_m_digest_23 : decode M_m_digest.2.1 23 = .ok (.invokevirtual 40, 3) := by decide +kernel
theorem d_m_digest_26 : decode M_m_digest.2.1 26 = .ok (.i2l, 1) := by decide +kernel
theorem d_m_digest_27 : decode M_m_digest.2.1 27 = .ok (.ladd, 1) := by decide +kernel
theorem d_m_digest_28 : decode M_m_digest.2.1 28 = .ok (.lconst 1, 1) := by decide +kernel
theorem d_m_digest_29 : decode M_m_digest.2.1 29 = .ok (.ladd, 1) := by decide +kernel
theorem d_m_digest_30 : decode M_m_digest.2.1 30 = .ok (.ldc2_w 44, 3) := by decide +kernel
theorem d_m_digest_33 : decode M_m_digest.2.1 33 = .ok (.lrem, 1) := by decide +kernel
theorem d_m_digest_34 : decode M_m_digest.2.1 34 = .ok (.lstore 4, 2) := by decide +kernel
theorem d_m_digest_36 : decode M_m_digest.2.1 36 = .ok (.iinc 6 1, 3) := by decide +kernel
theorem d_m_digest_39 : decode M_m_digest.2.1 39 = .ok (.goto (-32), 3) := by decide +kernel
theorem d_m_digest_42 : decode M_m_digest.2.1 42 = .ok (.lload 4, 2) := by decide +kernel
theorem d_m_digest_44 : decode M_m_digest.2.1 44 = .ok (.l2i, 1) := by decide +kernel
theorem d_m_digest_45 : decode M_m_digest.2.1 45 = .ok (.ireturn, 1) := by decide +kernel
theorem d_m_at_0 : decode M_m_at.2.1 0 = .ok (.aload_n 0, 1) := by decide +kernel
theorem d_m_at_1 : decode M_m_at.2.1 1 = .ok (.getfield 7, 3) := by decide +kernel
theorem d_m_at_4 : decode M_m_at.2.1 4 = .ok (.sipush 240, 3) := by decide +kernel
theorem d_m_at_7 : decode M_m_at.2.1 7 = .ok (.iload_n 1, 1) := by decide +kernel
theorem d_m_at_8 : decode M_m_at.2.1 8 = .ok (.imul, 1) := by decide +kernel
theorem d_m_at_9 : decode M_m_at.2.1 9 = .ok (.iload_n 2, 1) := by decide +kernel
theorem d_m_at_10 : decode M_m_at.2.1 10 = .ok (.iadd, 1) := by decide +kernel
theorem d_m_at_11 : decode M_m_at.2.1 11 = .ok (.baload, 1) := by decide +kernel
theorem d_m_at_12 : decode M_m_at.2.1 12 = .ok (.sipush 255, 3) := by decide +kernel
theorem d_m_at_15 : decode M_m_at.2.1 15 = .ok (.iand, 1) := by decide +kernel
theorem d_m_at_16 : decode M_m_at.2.1 16 = .ok (.ireturn, 1) := by decide +kernel
theorem d_m_letterOf_0 : decode M_m_letterOf.2.1 0 = .ok (.iload_n 0, 1) := by decide +kernel
theorem d_m_letterOf_1 : decode M_m_letterOf.2.1 1 = .ok (.ifCond .ne 8, 3) := by decide +kernel
theorem d_m_letterOf_4 : decode M_m_letterOf.2.1 4 = .ok (.bipush 68, 2) := by decide +kernel
theorem d_m_letterOf_6 : decode M_m_letterOf.2.1 6 = .ok (.goto 55, 3) := by decide +kernel
theorem d_m_letterOf_9 : decode M_m_letterOf.2.1 9 = .ok (.iload_n 0, 1) := by decide +kernel
theorem d_m_letterOf_10 : decode M_m_letterOf.2.1 10 = .ok (.iconst 1, 1) := by decide +kernel
theorem d_m_letterOf_11 : decode M_m_letterOf.2.1 11 = .ok (.if_icmp .ne 8, 3) := by decide +kernel
theorem d_m_letterOf_14 : decode M_m_letterOf.2.1 14 = .ok (.bipush 70, 2) := by decide +kernel
theorem d_m_letterOf_16 : decode M_m_letterOf.2.1 16 = .ok (.goto 45, 3) := by decide +kernel
theorem d_m_letterOf_19 : decode M_m_letterOf.2.1 19 = .ok (.iload_n 0, 1) := by decide +kernel
theorem d_m_letterOf_20 : decode M_m_letterOf.2.1 20 = .ok (.iconst 2, 1) := by decide +kernel
theorem d_m_letterOf_21 : decode M_m_letterOf.2.1 21 = .ok (.if_icmp .ne 8, 3) := by decide +kernel
theorem d_m_letterOf_24 : decode M_m_letterOf.2.1 24 = .ok (.bipush 77, 2) := by decide +kernel
theorem d_m_letterOf_26 : decode M_m_letterOf.2.1 26 = .ok (.goto 35, 3) := by decide +kernel
theorem d_m_letterOf_29 : decode M_m_letterOf.2.1 29 = .ok (.iload_n 0, 1) := by decide +kernel
theorem d_m_letterOf_30 : decode M_m_letterOf.2.1 30 = .ok (.iconst 3, 1) := by decide +kernel
theorem d_m_letterOf_31 : decode M_m_letterOf.2.1 31 = .ok (.if_icmp .ne 8, 3) := by decide +kernel
theorem d_m_letterOf_34 : decode M_m_letterOf.2.1 34 = .ok (.bipush 80, 2) := by decide +kernel
theorem d_m_letterOf_36 : decode M_m_letterOf.2.1 36 = .ok (.goto 25, 3) := by decide +kernel
theorem d_m_letterOf_39 : decode M_m_letterOf.2.1 39 = .ok (.iload_n 0, 1) := by decide +kernel
theorem d_m_letterOf_40 : decode M_m_letterOf.2.1 40 = .ok (.iconst 4, 1) := by decide +kernel
theorem d_m_letterOf_41 : decode M_m_letterOf.2.1 41 = .ok (.if_icmp .ne 8, 3) := by decide +kernel
theorem d_m_letterOf_44 : decode M_m_letterOf.2.1 44 = .ok (.bipush 82, 2) := by decide +kernel
theorem d_m_letterOf_46 : decode M_m_letterOf.2.1 46 = .ok (.goto 15, 3) := by decide +kernel
theorem d_m_letterOf_49 : decode M_m_letterOf.2.1 49 = .ok (.iload_n 0, 1) := by decide +kernel
theorem d_m_letterOf_50 : decode M_m_letterOf.2.1 50 = .ok (.iconst 5, 1) := by decide +kernel
theorem d_m_letterOf_51 : decode M_m_letterOf.2.1 51 = .ok (.if_icmp .ne 8, 3) := by decide +kernel
theorem d_m_letterOf_54 : decode M_m_letterOf.2.1 54 = .ok (.bipush 84, 2) := by decide +kernel
theorem d_m_letterOf_56 : decode M_m_letterOf.2.1 56 = .ok (.goto 5, 3) := by decide +kernel
theorem d_m_letterOf_59 : decode M_m_letterOf.2.1 59 = .ok (.bipush 90, 2) := by decide +kernel
theorem d_m_letterOf_61 : decode M_m_letterOf.2.1 61 = .ok (.ireturn, 1) := by decide +kernel
theorem d_m_write_0 : decode M_m_write.2.1 0 = .ok (.aload_n 0, 1) := by decide +kernel
theorem d_m_write_1 : decode M_m_write.2.1 1 = .ok (.getfield 7, 3) := by decide +kernel
theorem d_m_write_4 : decode M_m_write.2.1 4 = .ok (.sipush 240, 3) := by decide +kernel
theorem d_m_write_7 : decode M_m_write.2.1 7 = .ok (.iload_n 1, 1) := by decide +kernel
theorem d_m_write_8 : decode M_m_write.2.1 8 = .ok (.imul, 1) := by decide +kernel
theorem d_m_write_9 : decode M_m_write.2.1 9 = .ok (.aload_n 0, 1) := by decide +kernel
theorem d_m_write_10 : decode M_m_write.2.1 10 = .ok (.getfield 13, 3) := by decide +kernel
theorem d_m_write_13 : decode M_m_write.2.1 13 = .ok (.iload_n 1, 1) := by decide +kernel
theorem d_m_write_14 : decode M_m_write.2.1 14 = .ok (.iaload, 1) := by decide +kernel
theorem d_m_write_15 : decode M_m_write.2.1 15 = .ok (.iadd, 1) := by decide +kernel
theorem d_m_write_16 : decode M_m_write.2.1 16 = .ok (.iload_n 2, 1) := by decide +kernel
theorem d_m_write_17 : decode M_m_write.2.1 17 = .ok (.i2b, 1) := by decide +kernel
theorem d_m_write_18 : decode M_m_write.2.1 18 = .ok (.bastore, 1) := by decide +kernel
theorem d_m_write_19 : decode M_m_write.2.1 19 = .ok (.aload_n 0, 1) := by decide +kernel
theorem d_m_write_20 : decode M_m_write.2.1 20 = .ok (.getfield 13, 3) := by decide +kernel
theorem d_m_write_23 : decode M_m_write.2.1 23 = .ok (.iload_n 1, 1) := by decide +kernel
theorem d_m_write_24 : decode M_m_write.2.1 24 = .ok (.dup2, 1) := by decide +kernel
theorem d_m_write_25 : decode M_m_write.2.1 25 = .ok (.iaload, 1) := by decide +kernel
theorem d_m_write_26 : decode M_m_write.2.1 26 = .ok (.iconst 1, 1) := by decide +kernel
theorem d_m_write_27 : decode M_m_write.2.1 27 = .ok (.iadd, 1) := by decide +kernel
theorem d_m_write_28 : decode M_m_write.2.1 28 = .ok (.iastore, 1) := by decide +kernel
theorem d_m_write_29 : decode M_m_write.2.1 29 = .ok (.return_, 1) := by decide +kernel
theorem d_m_writeName_0 : decode M_m_writeName.2.1 0 = .ok (.bipush 20, 2) := by decide +kernel
theorem d_m_writeName_2 : decode M_m_writeName.2.1 2 = .ok (.istore_n 3, 1) := by decide +kernel
theorem d_m_writeName_3 : decode M_m_writeName.2.1 3 = .ok (.iload_n 3, 1) := by decide +kernel
theorem d_m_writeName_4 : decode M_m_writeName.2.1 4 = .ok (.ifCond .lt 23, 3) := by decide +kernel
theorem d_m_writeName_7 : decode M_m_writeName.2.1 7 = .ok (.aload_n 0, 1) := by decide +kernel
theorem d_m_writeName_8 : decode M_m_writeName.2.1 8 = .ok (.iload_n 1, 1) := by decide +kernel
theorem d_m_writeName_9 : decode M_m_writeName.2.1 9 = .ok (.bipush 97, 2) := by decide +kernel
theorem d_m_writeName_11 : decode M_m_writeName.2.1 11 = .ok (.iload_n 2, 1) := by decide +kernel
theorem d_m_writeName_12 : decode M_m_writeName.2.1 12 = .ok (.iload_n 3, 1) := by decide +kernel
theorem d_m_writeName_13 : decode M_m_writeName.2.1 13 = .ok (.ishr, 1) := by decide +kernel
theorem d_m_writeName_14 : decode M_m_writeName.2.1 14 = .ok (.bipush 15, 2) := by decide +kernel
theorem d_m_writeName_16 : decode M_m_writeName.2.1 16 = .ok (.iand, 1) := by decide +kernel
theorem d_m_writeName_17 : decode M_m_writeName.2.1 17 = .ok (.iadd, 1) := by decide +kernel
theorem d_m_writeName_18 : decode M_m_writeName.2.1 18 = .ok (.invokevirtual 111, 3) := by decide +kernel
theorem d_m_writeName_21 : decode M_m_writeName.2.1 21 = .ok (.iinc 3 (-4), 3) := by decide +kernel
theorem d_m_writeName_24 : decode M_m_writeName.2.1 24 = .ok (.goto (-21), 3) := by decide +kernel
theorem d_m_writeName_27 : decode M_m_writeName.2.1 27 = .ok (.return_, 1) := by decide +kernel
theorem d_m_raw_0 : decode M_m_raw.2.1 0 = .ok (.iload_n 3, 1) := by decide +kernel
theorem d_m_raw_1 : decode M_m_raw.2.1 1 = .ok (.iconst 1, 1) := by decide +kernel
theorem d_m_raw_2 : decode M_m_raw.2.1 2 = .ok (.if_icmp .lt 24, 3) := by decide +kernel
theorem d_m_raw_5 : decode M_m_raw.2.1 5 = .ok (.iload_n 3, 1) := by decide +kernel
theorem d_m_raw_6 : decode M_m_raw.2.1 6 = .ok (.bipush 8, 2) := by decide +kernel
theorem d_m_raw_8 : decode M_m_raw.2.1 8 = .ok (.if_icmp .gt 18, 3) := by decide +kernel
theorem d_m_raw_11 : decode M_m_raw.2.1 11 = .ok (.aload_n 0, 1) := by decide +kernel
theorem d_m_raw_12 : decode M_m_raw.2.1 12 = .ok (.getfield 13, 3) := by decide +kernel
theorem d_m_raw_15 : decode M_m_raw.2.1 15 = .ok (.bipush 64, 2) := by decide +kernel
theorem d_m_raw_17 : decode M_m_raw.2.1 17 = .ok (.iaload, 1) := by decide +kernel
theorem d_m_raw_18 : decode M_m_raw.2.1 18 = .ok (.iload_n 3, 1) := by decide +kernel
theorem d_m_raw_19 : decode M_m_raw.2.1 19 = .ok (.iadd, 1) := by decide +kernel
theorem d_m_raw_20 : decode M_m_raw.2.1 20 = .ok (.sipush 240, 3) := by decide +kernel
theorem d_m_raw_23 : decode M_m_raw.2.1 23 = .ok (.if_icmp .le 5, 3) := by decide +kernel
theorem d_m_raw_26 : decode M_m_raw.2.1 26 = .ok (.iconst (-1), 1) := by decide +kernel
theorem d_m_raw_27 : decode M_m_raw.2.1 27 = .ok (.ireturn, 1) := by decide +kernel
theorem d_m_raw_28 : decode M_m_raw.2.1 28 = .ok (.iconst 0, 1) := by decide +kernel
theorem d_m_raw_29 : decode M_m_raw.2.1 29 = .ok (.istore 4, 2) := by decide +kernel
theorem d_m_raw_31 : decode M_m_raw.2.1 31 = .ok (.iload 4, 2) := by decide +kernel
theorem d_m_raw_33 : decode M_m_raw.2.1 33 = .ok (.iload_n 3, 1) := by decide +kernel
theorem d_m_raw_34 : decode M_m_raw.2.1 34 = .ok (.if_icmp .ge 27, 3) := by decide +kernel
theorem d_m_raw_37 : decode M_m_raw.2.1 37 = .ok (.aload_n 0, 1) := by decide +kernel
theorem d_m_raw_38 : decode M_m_raw.2.1 38 = .ok (.bipush 64, 2) := by decide +kernel
theorem d_m_raw_40 : decode M_m_raw.2.1 40 = .ok (.lload_n 1, 1) := by decide +kernel
theorem d_m_raw_41 : decode M_m_raw.2.1 41 = .ok (.bipush 8, 2) := by decide +kernel
theorem d_m_raw_43 : decode M_m_raw.2.1 43 = .ok (.iload 4, 2) := by decide +kernel
theorem d_m_raw_45 : decode M_m_raw.2.1 45 = .ok (.imul, 1) := by decide +kernel
theorem d_m_raw_46 : decode M_m_raw.2.1 46 = .ok (.lshr, 1) := by decide +kernel
theorem d_m_raw_47 : decode M_m_raw.2.1 47 = .ok (.ldc2_w 127, 3) := by decide +kernel
theorem d_m_raw_50 : decode M_m_raw.2.1 50 = .ok (.land, 1) := by decide +kernel
theorem d_m_raw_51 : decode M_m_raw.2.1 51 = .ok (.l2i, 1) := by decide +kernel
theorem d_m_raw_52 : decode M_m_raw.2.1 52 = .ok (.invokevirtual 111, 3) := by decide +kernel
theorem d_m_raw_55 : decode M_m_raw.2.1 55 = .ok (.iinc 4 1, 3) := by decide +kernel
theorem d_m_raw_58 : decode M_m_raw.2.1 58 = .ok (.goto (-27), 3) := by decide +kernel
theorem d_m_raw_61 : decode M_m_raw.2.1 61 = .ok (.aload_n 0, 1) := by decide +kernel
theorem d_m_raw_62 : decode M_m_raw.2.1 62 = .ok (.getfield 13, 3) := by decide +kernel
theorem d_m_raw_65 : decode M_m_raw.2.1 65 = .ok (.bipush 64, 2) := by decide +kernel
theorem d_m_raw_67 : decode M_m_raw.2.1 67 = .ok (.iaload, 1) := by decide +kernel
theorem d_m_raw_68 : decode M_m_raw.2.1 68 = .ok (.ireturn, 1) := by decide +kernel
theorem d_m_drop_0 : decode M_m_drop.2.1 0 = .ok (.aload_n 0, 1) := by decide +kernel
theorem d_m_drop_1 : decode M_m_drop.2.1 1 = .ok (.getfield 13, 3) := by decide +kernel
theorem d_m_drop_4 : decode M_m_drop.2.1 4 = .ok (.bipush 64, 2) := by decide +kernel
theorem d_m_drop_6 : decode M_m_drop.2.1 6 = .ok (.iaload, 1) := by decide +kernel
theorem d_m_drop_7 : decode M_m_drop.2.1 7 = .ok (.istore_n 1, 1) := by decide +kernel
theorem d_m_drop_8 : decode M_m_drop.2.1 8 = .ok (.aload_n 0, 1) := by decide +kernel
theorem d_m_drop_9 : decode M_m_drop.2.1 9 = .ok (.getfield 13, 3) := by decide +kernel
theorem d_m_drop_12 : decode M_m_drop.2.1 12 = .ok (.bipush 64, 2) := by decide +kernel
theorem d_m_drop_14 : decode M_m_drop.2.1 14 = .ok (.iconst 0, 1) := by decide +kernel
theorem d_m_drop_15 : decode M_m_drop.2.1 15 = .ok (.iastore, 1) := by decide +kernel
theorem d_m_drop_16 : decode M_m_drop.2.1 16 = .ok (.iload_n 1, 1) := by decide +kernel
theorem d_m_drop_17 : decode M_m_drop.2.1 17 = .ok (.ireturn, 1) := by decide +kernel
theorem d_m_files_0 : decode M_m_files.2.1 0 = .ok (.iload_n 1, 1) := by decide +kernel
theorem d_m_files_1 : decode M_m_files.2.1 1 = .ok (.invokestatic 129, 3) := by decide +kernel
theorem d_m_files_4 : decode M_m_files.2.1 4 = .ok (.ifCond .eq 13, 3) := by decide +kernel
theorem d_m_files_7 : decode M_m_files.2.1 7 = .ok (.aload_n 0, 1) := by decide +kernel
theorem d_m_files_8 : decode M_m_files.2.1 8 = .ok (.iload_n 1, 1) := by decide +kernel
theorem d_m_files_9 : decode M_m_files.2.1 9 = .ok (.bipush 64, 2) := by decide +kernel
theorem d_m_files_11 : decode M_m_files.2.1 11 = .ok (.invokevirtual 105, 3) := by decide +kernel
theorem d_m_files_14 : decode M_m_files.2.1 14 = .ok (.goto 4, 3) := by decide +kernel
theorem d_m_files_17 : decode M_m_files.2.1 17 = .ok (.iconst (-1), 1) := by decide +kernel
theorem d_m_files_18 : decode M_m_files.2.1 18 = .ok (.ireturn, 1) := by decide +kernel
theorem d_m_isRepository_0 : decode M_m_isRepository.2.1 0 = .ok (.iload_n 0, 1) := by decide +kernel
theorem d_m_isRepository_1 : decode M_m_isRepository.2.1 1 = .ok (.ifCond .eq 8, 3) := by decide +kernel
theorem d_m_isRepository_4 : decode M_m_isRepository.2.1 4 = .ok (.iload_n 0, 1) := by decide +kernel
theorem d_m_isRepository_5 : decode M_m_isRepository.2.1 5 = .ok (.iconst 1, 1) := by decide +kernel
theorem d_m_isRepository_6 : decode M_m_isRepository.2.1 6 = .ok (.if_icmp .ne 7, 3) := by decide +kernel
theorem d_m_isRepository_9 : decode M_m_isRepository.2.1 9 = .ok (.iconst 1, 1) := by decide +kernel
theorem d_m_isRepository_10 : decode M_m_isRepository.2.1 10 = .ok (.goto 4, 3) := by decide +kernel
theorem d_m_isRepository_13 : decode M_m_isRepository.2.1 13 = .ok (.iconst 0, 1) := by decide +kernel
theorem d_m_isRepository_14 : decode M_m_isRepository.2.1 14 = .ok (.ireturn, 1) := by decide +kernel
theorem d_m_filesOf_0 : decode M_m_filesOf.2.1 0 = .ok (.bipush 7, 2) := by decide +kernel
theorem d_m_filesOf_2 : decode M_m_filesOf.2.1 2 = .ok (.istore_n 3, 1) := by decide +kernel
theorem d_m_filesOf_3 : decode M_m_filesOf.2.1 3 = .ok (.iconst 0, 1) := by decide +kernel
theorem d_m_filesOf_4 : decode M_m_filesOf.2.1 4 = .ok (.istore 4, 2) := by decide +kernel
theorem d_m_filesOf_6 : decode M_m_filesOf.2.1 6 = .ok (.iload 4, 2) := by decide +kernel
theorem d_m_filesOf_8 : decode M_m_filesOf.2.1 8 = .ok (.aload_n 0, 1) := by decide +kernel
theorem d_m_filesOf_9 : decode M_m_filesOf.2.1 9 = .ok (.getfield 13, 3) := by decide +kernel
theorem d_m_filesOf_12 : decode M_m_filesOf.2.1 12 = .ok (.iload_n 2, 1) := by decide +kernel
theorem d_m_filesOf_13 : decode M_m_filesOf.2.1 13 = .ok (.iaload, 1) := by decide +kernel
theorem d_m_filesOf_14 : decode M_m_filesOf.2.1 14 = .ok (.if_icmp .ge 64, 3) := by decide +kernel
theorem d_m_filesOf_17 : decode M_m_filesOf.2.1 17 = .ok (.aload_n 0, 1) := by decide +kernel
theorem d_m_filesOf_18 : decode M_m_filesOf.2.1 18 = .ok (.iload_n 2, 1) := by decide +kernel
theorem d_m_filesOf_19 : decode M_m_filesOf.2.1 19 = .ok (.iload 4, 2) := by decide +kernel
theorem d_m_filesOf_21 : decode M_m_filesOf.2.1 21 = .ok (.invokevirtual 90, 3) := by decide +kernel
theorem d_m_filesOf_24 : decode M_m_filesOf.2.1 24 = .ok (.ifCond .eq 54, 3) := by decide +kernel
theorem d_m_filesOf_27 : decode M_m_filesOf.2.1 27 = .ok (.aload_n 0, 1) := by decide +kernel
theorem d_m_filesOf_28 : decode M_m_filesOf.2.1 28 = .ok (.getfield 51, 3) := by decide +kernel
theorem d_m_filesOf_31 : decode M_m_filesOf.2.1 31 = .ok (.istore 4, 2) := by decide +kernel
theorem d_m_filesOf_33 : decode M_m_filesOf.2.1 33 = .ok (.aload_n 0, 1) := by decide +kernel
theorem d_m_filesOf_34 : decode M_m_filesOf.2.1 34 = .ok (.getfield 47, 3) := by decide +kernel
theorem d_m_filesOf_37 : decode M_m_filesOf.2.1 37 = .ok (.bipush 70, 2) := by decide +kernel
theorem d_m_filesOf_39 : decode M_m_filesOf.2.1 39 = .ok (.if_icmp .ne (-33), 3) := by decide +kernel
theorem d_m_filesOf_42 : decode M_m_filesOf.2.1 42 = .ok (.aload_n 0, 1) := by decide +kernel
theorem d_m_filesOf_43 : decode M_m_filesOf.2.1 43 = .ok (.iload_n 1, 1) := by decide +kernel
theorem d_m_filesOf_44 : decode M_m_filesOf.2.1 44 = .ok (.aload_n 0, 1) := by decide +kernel
theorem d_m_filesOf_45 : decode M_m_filesOf.2.1 45 = .ok (.getfield 58, 3) := by decide +kernel
theorem d_m_filesOf_48 : decode M_m_filesOf.2.1 48 = .ok (.invokevirtual 98, 3) := by decide +kernel
theorem d_m_filesOf_51 : decode M_m_filesOf.2.1 51 = .ok (.istore 5, 2) := by decide +kernel
theorem d_m_filesOf_53 : decode M_m_filesOf.2.1 53 = .ok (.iload 5, 2) := by decide +kernel
theorem d_m_filesOf_55 : decode M_m_filesOf.2.1 55 = .ok (.ifCond .ge 5, 3) := by decide +kernel
theorem d_m_filesOf_58 : decode M_m_filesOf.2.1 58 = .ok (.iconst (-1), 1) := by decide +kernel
theorem d_m_filesOf_59 : decode M_m_filesOf.2.1 59 = .ok (.ireturn, 1) := by decide +kernel
theorem d_m_filesOf_60 : decode M_m_filesOf.2.1 60 = .ok (.aload_n 0, 1) := by decide +kernel
theorem d_m_filesOf_61 : decode M_m_filesOf.2.1 61 = .ok (.iload_n 3, 1) := by decide +kernel
theorem d_m_filesOf_62 : decode M_m_filesOf.2.1 62 = .ok (.iload 5, 2) := by decide +kernel
theorem d_m_filesOf_64 : decode M_m_filesOf.2.1 64 = .ok (.aload_n 0, 1) := by decide +kernel
theorem d_m_filesOf_65 : decode M_m_filesOf.2.1 65 = .ok (.getfield 13, 3) := by decide +kernel
theorem d_m_filesOf_68 : decode M_m_filesOf.2.1 68 = .ok (.iload 5, 2) := by decide +kernel
theorem d_m_filesOf_70 : decode M_m_filesOf.2.1 70 = .ok (.iaload, 1) := by decide +kernel
theorem d_m_filesOf_71 : decode M_m_filesOf.2.1 71 = .ok (.invokevirtual 94, 3) := by decide +kernel
theorem d_m_filesOf_74 : decode M_m_filesOf.2.1 74 = .ok (.istore_n 3, 1) := by decide +kernel
theorem d_m_filesOf_75 : decode M_m_filesOf.2.1 75 = .ok (.goto (-69), 3) := by decide +kernel
theorem d_m_filesOf_78 : decode M_m_filesOf.2.1 78 = .ok (.iload_n 3, 1) := by decide +kernel
theorem d_m_filesOf_79 : decode M_m_filesOf.2.1 79 = .ok (.ireturn, 1) := by decide +kernel
theorem d_m_readLine_0 : decode M_m_readLine.2.1 0 = .ok (.iload_n 2, 1) := by decide +kernel
theorem d_m_readLine_1 : decode M_m_readLine.2.1 1 = .ok (.istore_n 3, 1) := by decide +kernel
theorem d_m_readLine_2 : decode M_m_readLine.2.1 2 = .ok (.iload_n 3, 1) := by decide +kernel
theorem d_m_readLine_3 : decode M_m_readLine.2.1 3 = .ok (.aload_n 0, 1) := by decide +kernel
theorem d_m_readLine_4 : decode M_m_readLine.2.1 4 = .ok (.getfield 13, 3) := by decide +kernel
theorem d_m_readLine_7 : decode M_m_readLine.2.1 7 = .ok (.iload_n 1, 1) := by decide +kernel
theorem d_m_readLine_8 : decode M_m_readLine.2.1 8 = .ok (.iaload, 1) := by decide +kernel
theorem d_m_readLine_9 : decode M_m_readLine.2.1 9 = .ok (.if_icmp .ge 20, 3) := by decide +kernel
theorem d_m_readLine_12 : decode M_m_readLine.2.1 12 = .ok (.aload_n 0, 1) := by decide +kernel
theorem d_m_readLine_13 : decode M_m_readLine.2.1 13 = .ok (.iload_n 1, 1) := by decide +kernel
theorem d_m_readLine_14 : decode M_m_readLine.2.1 14 = .ok (.iload_n 3, 1) := by decide +kernel
theorem d_m_readLine_15 : decode M_m_readLine.2.1 15 = .ok (.invokevirtual 40, 3) := by decide +kernel
theorem d_m_readLine_18 : decode M_m_readLine.2.1 18 = .ok (.bipush 10, 2) := by decide +kernel
theorem d_m_readLine_20 : decode M_m_readLine.2.1 20 = .ok (.if_icmp .eq 9, 3) := by decide +kernel
theorem d_m_readLine_23 : decode M_m_readLine.2.1 23 = .ok (.iinc 3 1, 3) := by decide +kernel
theorem d_m_readLine_26 : decode M_m_readLine.2.1 26 = .ok (.goto (-24), 3) := by decide +kernel
theorem d_m_readLine_29 : decode M_m_readLine.2.1 29 = .ok (.aload_n 0, 1) := by decide +kernel
theorem d_m_readLine_30 : decode M_m_readLine.2.1 30 = .ok (.iconst 0, 1) := by decide +kernel
theorem d_m_readLine_31 : decode M_m_readLine.2.1 31 = .ok (.putfield 47, 3) := by decide +kernel
theorem d_m_readLine_34 : decode M_m_readLine.2.1 34 = .ok (.iload_n 3, 1) := by decide +kernel
theorem d_m_readLine_35 : decode M_m_readLine.2.1 35 = .ok (.aload_n 0, 1) := by decide +kernel
theorem d_m_readLine_36 : decode M_m_readLine.2.1 36 = .ok (.getfield 13, 3) := by decide +kernel
theorem d_m_readLine_39 : decode M_m_readLine.2.1 39 = .ok (.iload_n 1, 1) := by decide +kernel
theorem d_m_readLine_40 : decode M_m_readLine.2.1 40 = .ok (.iaload, 1) := by decide +kernel
theorem d_m_readLine_41 : decode M_m_readLine.2.1 41 = .ok (.if_icmp .lt 5, 3) := by decide +kernel
theorem d_m_readLine_44 : decode M_m_readLine.2.1 44 = .ok (.iconst 0, 1) := by decide +kernel
theorem d_m_readLine_45 : decode M_m_readLine.2.1 45 = .ok (.ireturn, 1) := by decide +kernel
theorem d_m_readLine_46 : decode M_m_readLine.2.1 46 = .ok (.aload_n 0, 1) := by decide +kernel
theorem d_m_readLine_47 : decode M_m_readLine.2.1 47 = .ok (.iload_n 3, 1) := by decide +kernel
theorem d_m_readLine_48 : decode M_m_readLine.2.1 48 = .ok (.iconst 1, 1) := by decide +kernel
theorem d_m_readLine_49 : decode M_m_readLine.2.1 49 = .ok (.iadd, 1) := by decide +kernel
theorem d_m_readLine_50 : decode M_m_readLine.2.1 50 = .ok (.putfield 51, 3) := by decide +kernel
theorem d_m_readLine_53 : decode M_m_readLine.2.1 53 = .ok (.iload_n 3, 1) := by decide +kernel
theorem d_m_readLine_54 : decode M_m_readLine.2.1 54 = .ok (.iload_n 2, 1) := by decide +kernel
theorem d_m_readLine_55 : decode M_m_readLine.2.1 55 = .ok (.isub, 1) := by decide +kernel
theorem d_m_readLine_56 : decode M_m_readLine.2.1 56 = .ok (.istore 4, 2) := by decide +kernel
theorem d_m_readLine_58 : decode M_m_readLine.2.1 58 = .ok (.iload 4, 2) := by decide +kernel
theorem d_m_readLine_60 : decode M_m_readLine.2.1 60 = .ok (.iconst 3, 1) := by decide +kernel
theorem d_m_readLine_61 : decode M_m_readLine.2.1 61 = .ok (.if_icmp .lt 37, 3) := by decide +kernel
theorem d_m_readLine_64 : decode M_m_readLine.2.1 64 = .ok (.aload_n 0, 1) := by decide +kernel
theorem d_m_readLine_65 : decode M_m_readLine.2.1 65 = .ok (.iload_n 1, 1) := by decide +kernel
theorem d_m_readLine_66 : decode M_m_readLine.2.1 66 = .ok (.iload_n 2, 1) := by decide +kernel
theorem d_m_readLine_67 : decode M_m_readLine.2.1 67 = .ok (.iconst 1, 1) := by decide +kernel
theorem d_m_readLine_68 : decode M_m_readLine.2.1 68 = .ok (.iadd, 1) := by decide +kernel
theorem d_m_readLine_69 : decode M_m_readLine.2.1 69 = .ok (.invokevirtual 40, 3) := by decide +kernel
theorem d_m_readLine_72 : decode M_m_readLine.2.1 72 = .ok (.bipush 32, 2) := by decide +kernel
theorem d_m_readLine_74 : decode M_m_readLine.2.1 74 = .ok (.if_icmp .ne 24, 3) := by decide +kernel
theorem d_m_readLine_77 : decode M_m_readLine.2.1 77 = .ok (.aload_n 0, 1) := by decide +kernel
theorem d_m_readLine_78 : decode M_m_readLine.2.1 78 = .ok (.iload_n 1, 1) := by decide +kernel
theorem d_m_readLine_79 : decode M_m_readLine.2.1 79 = .ok (.iload_n 2, 1) := by decide +kernel
theorem d_m_readLine_80 : decode M_m_readLine.2.1 80 = .ok (.iload 4, 2) := by decide +kernel
theorem d_m_readLine_82 : decode M_m_readLine.2.1 82 = .ok (.invokevirtual 54, 3) := by decide +kernel
theorem d_m_readLine_85 : decode M_m_readLine.2.1 85 = .ok (.ifCond .eq 13, 3) := by decide +kernel
theorem d_m_readLine_88 : decode M_m_readLine.2.1 88 = .ok (.aload_n 0, 1) := by decide +kernel
theorem d_m_readLine_89 : decode M_m_readLine.2.1 89 = .ok (.aload_n 0, 1) := by decide +kernel
theorem d_m_readLine_90 : decode M_m_readLine.2.1 90 = .ok (.iload_n 1, 1) := by decide +kernel
theorem d_m_readLine_91 : decode M_m_readLine.2.1 91 = .ok (.iload_n 2, 1) := by decide +kernel
theorem d_m_readLine_92 : decode M_m_readLine.2.1 92 = .ok (.invokevirtual 40, 3) := by decide +kernel
theorem d_m_readLine_95 : decode M_m_readLine.2.1 95 = .ok (.putfield 47, 3) := by decide +kernel
theorem d_m_readLine_98 : decode M_m_readLine.2.1 98 = .ok (.iconst 1, 1) := by decide +kernel
theorem d_m_readLine_99 : decode M_m_readLine.2.1 99 = .ok (.ireturn, 1) := by decide +kernel
theorem d_m_isCard_0 : decode M_m_isCard.2.1 0 = .ok (.aload_n 0, 1) := by decide +kernel
theorem d_m_isCard_1 : decode M_m_isCard.2.1 1 = .ok (.iload_n 1, 1) := by decide +kernel
theorem d_m_isCard_2 : decode M_m_isCard.2.1 2 = .ok (.iload_n 2, 1) := by decide +kernel
theorem d_m_isCard_3 : decode M_m_isCard.2.1 3 = .ok (.invokevirtual 40, 3) := by decide +kernel
theorem d_m_isCard_6 : decode M_m_isCard.2.1 6 = .ok (.istore 4, 2) := by decide +kernel
theorem d_m_isCard_8 : decode M_m_isCard.2.1 8 = .ok (.aload_n 0, 1) := by decide +kernel
theorem d_m_isCard_9 : decode M_m_isCard.2.1 9 = .ok (.iconst (-1), 1) := by decide +kernel
theorem d_m_isCard_10 : decode M_m_isCard.2.1 10 = .ok (.putfield 58, 3) := by decide +kernel
theorem d_m_isCard_13 : decode M_m_isCard.2.1 13 = .ok (.aload_n 0, 1) := by decide +kernel
theorem d_m_isCard_14 : decode M_m_isCard.2.1 14 = .ok (.iconst (-1), 1) := by decide +kernel
theorem d_m_isCard_15 : decode M_m_isCard.2.1 15 = .ok (.putfield 61, 3) := by decide +kernel
theorem d_m_isCard_18 : decode M_m_isCard.2.1 18 = .ok (.iload 4, 2) := by decide +kernel
theorem d_m_isCard_20 : decode M_m_isCard.2.1 20 = .ok (.bipush 68, 2) := by decide +kernel
theorem d_m_isCard_22 : decode M_m_isCard.2.1 22 = .ok (.if_icmp .ne 15, 3) := by decide +kernel
theorem d_m_isCard_25 : decode M_m_isCard.2.1 25 = .ok (.aload_n 0, 1) := by decide +kernel
theorem d_m_isCard_26 : decode M_m_isCard.2.1 26 = .ok (.iload_n 1, 1) := by decide +kernel
theorem d_m_isCard_27 : decode M_m_isCard.2.1 27 = .ok (.iload_n 2, 1) := by decide +kernel
theorem d_m_isCard_28 : decode M_m_isCard.2.1 28 = .ok (.iconst 2, 1) := by decide +kernel
theorem d_m_isCard_29 : decode M_m_isCard.2.1 29 = .ok (.iadd, 1) := by decide +kernel
theorem d_m_isCard_30 : decode M_m_isCard.2.1 30 = .ok (.iload_n 3, 1) := by decide +kernel
theorem d_m_isCard_31 : decode M_m_isCard.2.1 31 = .ok (.iconst 2, 1) := by decide +kernel
theorem d_m_isCard_32 : decode M_m_isCard.2.1 32 = .ok (.isub, 1) := by decide +kernel
theorem d_m_isCard_33 : decode M_m_isCard.2.1 33 = .ok (.invokevirtual 64, 3) := by decide +kernel
theorem d_m_isCard_36 : decode M_m_isCard.2.1 36 = .ok (.ireturn, 1) := by decide +kernel
theorem d_m_isCard_37 : decode M_m_isCard.2.1 37 = .ok (.iload 4, 2) := by decide +kernel
theorem d_m_isCard_39 : decode M_m_isCard.2.1 39 = .ok (.bipush 77, 2) := by decide +kernel
theorem d_m_isCard_41 : decode M_m_isCard.2.1 41 = .ok (.if_icmp .eq 17, 3) := by decide +kernel
theorem d_m_isCard_44 : decode M_m_isCard.2.1 44 = .ok (.iload 4, 2) := by decide +kernel
theorem d_m_isCard_46 : decode M_m_isCard.2.1 46 = .ok (.bipush 82, 2) := by decide +kernel
theorem d_m_isCard_48 : decode M_m_isCard.2.1 48 = .ok (.if_icmp .eq 10, 3) := by decide +kernel
theorem d_m_isCard_51 : decode M_m_isCard.2.1 51 = .ok (.iload 4, 2) := by decide +kernel
theorem d_m_isCard_53 : decode M_m_isCard.2.1 53 = .ok (.bipush 90, 2) := by decide +kernel
theorem d_m_isCard_55 : decode M_m_isCard.2.1 55 = .ok (.if_icmp .ne 34, 3) := by decide +kernel
theorem d_m_isCard_58 : decode M_m_isCard.2.1 58 = .ok (.iload_n 3, 1) := by decide +kernel
theorem d_m_isCard_59 : decode M_m_isCard.2.1 59 = .ok (.bipush 8, 2) := by decide +kernel
theorem d_m_isCard_61 : decode M_m_isCard.2.1 61 = .ok (.if_icmp .ne 15, 3) := by decide +kernel
theorem d_m_isCard_64 : decode M_m_isCard.2.1 64 = .ok (.aload_n 0, 1) := by decide +kernel
theorem d_m_isCard_65 : decode M_m_isCard.2.1 65 = .ok (.aload_n 0, 1) := by decide +kernel
theorem d_m_isCard_66 : decode M_m_isCard.2.1 66 = .ok (.iload_n 1, 1) := by decide +kernel
theorem d_m_isCard_67 : decode M_m_isCard.2.1 67 = .ok (.iload_n 2, 1) := by decide +kernel
theorem d_m_isCard_68 : decode M_m_isCard.2.1 68 = .ok (.iconst 2, 1) := by decide +kernel
theorem d_m_isCard_69 : decode M_m_isCard.2.1 69 = .ok (.iadd, 1) := by decide +kernel
theorem d_m_isCard_70 : decode M_m_isCard.2.1 70 = .ok (.invokevirtual 67, 3) := by decide +kernel
theorem d_m_isCard_73 : decode M_m_isCard.2.1 73 = .ok (.putfield 58, 3) := by decide +kernel
theorem d_m_isCard_76 : decode M_m_isCard.2.1 76 = .ok (.aload_n 0, 1) := by decide +kernel
theorem d_m_isCard_77 : decode M_m_isCard.2.1 77 = .ok (.getfield 58, 3) := by decide +kernel
theorem d_m_isCard_80 : decode M_m_isCard.2.1 80 = .ok (.ifCond .lt 7, 3) := by decide +kernel
theorem d_m_isCard_83 : decode M_m_isCard.2.1 83 = .ok (.iconst 1, 1) := by decide +kernel
theorem d_m_isCard_84 : decode M_m_isCard.2.1 84 = .ok (.goto 4, 3) := by decide +kernel
theorem d_m_isCard_87 : decode M_m_isCard.2.1 87 = .ok (.iconst 0, 1) := by decide +kernel
theorem d_m_isCard_88 : decode M_m_isCard.2.1 88 = .ok (.ireturn, 1) := by decide +kernel
theorem d_m_isCard_89 : decode M_m_isCard.2.1 89 = .ok (.iload 4, 2) := by decide +kernel
theorem d_m_isCard_91 : decode M_m_isCard.2.1 91 = .ok (.bipush 70, 2) := by decide +kernel
theorem d_m_isCard_93 : decode M_m_isCard.2.1 93 = .ok (.if_icmp .ne 78, 3) := by decide +kernel
theorem d_m_isCard_96 : decode M_m_isCard.2.1 96 = .ok (.iload_n 3, 1) := by decide +kernel
theorem d_m_isCard_97 : decode M_m_isCard.2.1 97 = .ok (.bipush 10, 2) := by decide +kernel
theorem d_m_isCard_99 : decode M_m_isCard.2.1 99 = .ok (.if_icmp .ne 30, 3) := by decide +kernel
theorem d_m_isCard_102 : decode M_m_isCard.2.1 102 = .ok (.aload_n 0, 1) := by decide +kernel
theorem d_m_isCard_103 : decode M_m_isCard.2.1 103 = .ok (.iload_n 1, 1) := by decide +kernel
theorem d_m_isCard_104 : decode M_m_isCard.2.1 104 = .ok (.iload_n 2, 1) := by decide +kernel
theorem d_m_isCard_105 : decode M_m_isCard.2.1 105 = .ok (.iconst 3, 1) := by decide +kernel
theorem d_m_isCard_106 : decode M_m_isCard.2.1 106 = .ok (.iadd, 1) := by decide +kernel
theorem d_m_isCard_107 : decode M_m_isCard.2.1 107 = .ok (.invokevirtual 40, 3) := by decide +kernel
theorem d_m_isCard_110 : decode M_m_isCard.2.1 110 = .ok (.bipush 32, 2) := by decide +kernel
theorem d_m_isCard_112 : decode M_m_isCard.2.1 112 = .ok (.if_icmp .ne 17, 3) := by decide +kernel
theorem d_m_isCard_115 : decode M_m_isCard.2.1 115 = .ok (.aload_n 0, 1) := by decide +kernel
theorem d_m_isCard_116 : decode M_m_isCard.2.1 116 = .ok (.iload_n 1, 1) := by decide +kernel
theorem d_m_isCard_117 : decode M_m_isCard.2.1 117 = .ok (.iload_n 2, 1) := by decide +kernel
theorem d_m_isCard_118 : decode M_m_isCard.2.1 118 = .ok (.iconst 2, 1) := by decide +kernel
theorem d_m_isCard_119 : decode M_m_isCard.2.1 119 = .ok (.iadd, 1) := by decide +kernel
theorem d_m_isCard_120 : decode M_m_isCard.2.1 120 = .ok (.invokevirtual 40, 3) := by decide +kernel
theorem d_m_isCard_123 : decode M_m_isCard.2.1 123 = .ok (.invokestatic 70, 3) := by decide +kernel
theorem d_m_isCard_126 : decode M_m_isCard.2.1 126 = .ok (.ifCond .ne 5, 3) := by decide +kernel
theorem d_m_isCard_129 : decode M_m_isCard.2.1 129 = .ok (.iconst 0, 1) := by decide +kernel
theorem d_m_isCard_130 : decode M_m_isCard.2.1 130 = .ok (.ireturn, 1) := by decide +kernel
theorem d_m_isCard_131 : decode M_m_isCard.2.1 131 = .ok (.aload_n 0, 1) := by decide +kernel
theorem d_m_isCard_132 : decode M_m_isCard.2.1 132 = .ok (.aload_n 0, 1) := by decide +kernel
theorem d_m_isCard_133 : decode M_m_isCard.2.1 133 = .ok (.iload_n 1, 1) := by decide +kernel
theorem d_m_isCard_134 : decode M_m_isCard.2.1 134 = .ok (.iload_n 2, 1) := by decide +kernel
theorem d_m_isCard_135 : decode M_m_isCard.2.1 135 = .ok (.iconst 2, 1) := by decide +kernel
theorem d_m_isCard_136 : decode M_m_isCard.2.1 136 = .ok (.iadd, 1) := by decide +kernel
theorem d_m_isCard_137 : decode M_m_isCard.2.1 137 = .ok (.invokevirtual 40, 3) := by decide +kernel
theorem d_m_isCard_140 : decode M_m_isCard.2.1 140 = .ok (.bipush 48, 2) := by decide +kernel
theorem d_m_isCard_142 : decode M_m_isCard.2.1 142 = .ok (.isub, 1) := by decide +kernel
theorem d_m_isCard_143 : decode M_m_isCard.2.1 143 = .ok (.putfield 74, 3) := by decide +kernel
theorem d_m_isCard_146 : decode M_m_isCard.2.1 146 = .ok (.aload_n 0, 1) := by decide +kernel
theorem d_m_isCard_147 : decode M_m_isCard.2.1 147 = .ok (.aload_n 0, 1) := by decide +kernel
theorem d_m_isCard_148 : decode M_m_isCard.2.1 148 = .ok (.iload_n 1, 1) := by decide +kernel
theorem d_m_isCard_149 : decode M_m_isCard.2.1 149 = .ok (.iload_n 2, 1) := by decide +kernel
theorem d_m_isCard_150 : decode M_m_isCard.2.1 150 = .ok (.iconst 4, 1) := by decide +kernel
theorem d_m_isCard_151 : decode M_m_isCard.2.1 151 = .ok (.iadd, 1) := by decide +kernel
theorem d_m_isCard_152 : decode M_m_isCard.2.1 152 = .ok (.invokevirtual 67, 3) := by decide +kernel
theorem d_m_isCard_155 : decode M_m_isCard.2.1 155 = .ok (.putfield 58, 3) := by decide +kernel
theorem d_m_isCard_158 : decode M_m_isCard.2.1 158 = .ok (.aload_n 0, 1) := by decide +kernel
theorem d_m_isCard_159 : decode M_m_isCard.2.1 159 = .ok (.getfield 58, 3) := by decide +kernel
theorem d_m_isCard_162 : decode M_m_isCard.2.1 162 = .ok (.ifCond .lt 7, 3) := by decide +kernel
theorem d_m_isCard_165 : decode M_m_isCard.2.1 165 = .ok (.iconst 1, 1) := by decide +kernel
theorem d_m_isCard_166 : decode M_m_isCard.2.1 166 = .ok (.goto 4, 3) := by decide +kernel
theorem d_m_isCard_169 : decode M_m_isCard.2.1 169 = .ok (.iconst 0, 1) := by decide +kernel
theorem d_m_isCard_170 : decode M_m_isCard.2.1 170 = .ok (.ireturn, 1) := by decide +kernel
theorem d_m_isCard_171 : decode M_m_isCard.2.1 171 = .ok (.iload 4, 2) := by decide +kernel
theorem d_m_isCard_173 : decode M_m_isCard.2.1 173 = .ok (.bipush 80, 2) := by decide +kernel
theorem d_m_isCard_175 : decode M_m_isCard.2.1 175 = .ok (.if_icmp .ne 11, 3) := by decide +kernel
theorem d_m_isCard_178 : decode M_m_isCard.2.1 178 = .ok (.aload_n 0, 1) := by decide +kernel
theorem d_m_isCard_179 : decode M_m_isCard.2.1 179 = .ok (.iload_n 1, 1) := by decide +kernel
theorem d_m_isCard_180 : decode M_m_isCard.2.1 180 = .ok (.iload_n 2, 1) := by decide +kernel
theorem d_m_isCard_181 : decode M_m_isCard.2.1 181 = .ok (.iload_n 3, 1) := by decide +kernel
theorem d_m_isCard_182 : decode M_m_isCard.2.1 182 = .ok (.invokevirtual 77, 3) := by decide +kernel
theorem d_m_isCard_185 : decode M_m_isCard.2.1 185 = .ok (.ireturn, 1) := by decide +kernel
theorem d_m_isCard_186 : decode M_m_isCard.2.1 186 = .ok (.iload 4, 2) := by decide +kernel
theorem d_m_isCard_188 : decode M_m_isCard.2.1 188 = .ok (.bipush 84, 2) := by decide +kernel
theorem d_m_isCard_190 : decode M_m_isCard.2.1 190 = .ok (.if_icmp .ne 17, 3) := by decide +kernel
theorem d_m_isCard_193 : decode M_m_isCard.2.1 193 = .ok (.aload_n 0, 1) := by decide +kernel
theorem d_m_isCard_194 : decode M_m_isCard.2.1 194 = .ok (.iload_n 1, 1) := by decide +kernel
theorem d_m_isCard_195 : decode M_m_isCard.2.1 195 = .ok (.iload_n 2, 1) := by decide +kernel
theorem d_m_isCard_196 : decode M_m_isCard.2.1 196 = .ok (.iload_n 3, 1) := by decide +kernel
theorem d_m_isCard_197 : decode M_m_isCard.2.1 197 = .ok (.invokevirtual 80, 3) := by decide +kernel
theorem d_m_isCard_200 : decode M_m_isCard.2.1 200 = .ok (.ifCond .eq 7, 3) := by decide +kernel
theorem d_m_isCard_203 : decode M_m_isCard.2.1 203 = .ok (.iconst 1, 1) := by decide +kernel
theorem d_m_isCard_204 : decode M_m_isCard.2.1 204 = .ok (.goto 4, 3) := by decide +kernel
theorem d_m_isCard_207 : decode M_m_isCard.2.1 207 = .ok (.iconst 0, 1) := by decide +kernel
theorem d_m_isCard_208 : decode M_m_isCard.2.1 208 = .ok (.ireturn, 1) := by decide +kernel
end
section
/-! Decode rows. Own work. -/
theorem d_m_isNumber_0 : decode M_m_isNumber.2.1 0 = .ok (.iload_n 3, 1) := by decide +kernel
theorem d_m_isNumber_1 : decode M_m_isNumber.2.1 1 = .ok (.iconst 4, 1) := by decide +kernel
theorem d_m_isNumber_2 : decode M_m_isNumber.2.1 2 = .ok (.if_icmp .gt 19, 3) := by decide +kernel
theorem d_m_isNumber_5 : decode M_m_isNumber.2.1 5 = .ok (.iload_n 3, 1) := by decide +kernel
theorem d_m_isNumber_6 : decode M_m_isNumber.2.1 6 = .ok (.iconst 1, 1) := by decide +kernel
theorem d_m_isNumber_7 : decode M_m_isNumber.2.1 7 = .ok (.if_icmp .le 16, 3) := by decide +kernel
theorem d_m_isNumber_10 : decode M_m_isNumber.2.1 10 = .ok (.aload_n 0, 1) := by decide +kernel
theorem d_m_isNumber_11 : decode M_m_isNumber.2.1 11 = .ok (.iload_n 1, 1) := by decide +kernel
theorem d_m_isNumber_12 : decode M_m_isNumber.2.1 12 = .ok (.iload_n 2, 1) := by decide +kernel
theorem d_m_isNumber_13 : decode M_m_isNumber.2.1 13 = .ok (.invokevirtual 40, 3) := by decide +kernel
theorem d_m_isNumber_16 : decode M_m_isNumber.2.1 16 = .ok (.bipush 48, 2) := by decide +kernel
theorem d_m_isNumber_18 : decode M_m_isNumber.2.1 18 = .ok (.if_icmp .ne 5, 3) := by decide +kernel
theorem d_m_isNumber_21 : decode M_m_isNumber.2.1 21 = .ok (.iconst 0, 1) := by decide +kernel
theorem d_m_isNumber_22 : decode M_m_isNumber.2.1 22 = .ok (.ireturn, 1) := by decide +kernel
theorem d_m_isNumber_23 : decode M_m_isNumber.2.1 23 = .ok (.aload_n 0, 1) := by decide +kernel
theorem d_m_isNumber_24 : decode M_m_isNumber.2.1 24 = .ok (.iconst 0, 1) := by decide +kernel
theorem d_m_isNumber_25 : decode M_m_isNumber.2.1 25 = .ok (.putfield 83, 3) := by decide +kernel
theorem d_m_isNumber_28 : decode M_m_isNumber.2.1 28 = .ok (.iconst 1, 1) := by decide +kernel
theorem d_m_isNumber_29 : decode M_m_isNumber.2.1 29 = .ok (.istore 4, 2) := by decide +kernel
theorem d_m_isNumber_31 : decode M_m_isNumber.2.1 31 = .ok (.iload_n 2, 1) := by decide +kernel
theorem d_m_isNumber_32 : decode M_m_isNumber.2.1 32 = .ok (.istore 5, 2) := by decide +kernel
theorem d_m_isNumber_34 : decode M_m_isNumber.2.1 34 = .ok (.iload 5, 2) := by decide +kernel
theorem d_m_isNumber_36 : decode M_m_isNumber.2.1 36 = .ok (.iload_n 2, 1) := by decide +kernel
theorem d_m_isNumber_37 : decode M_m_isNumber.2.1 37 = .ok (.iload_n 3, 1) := by decide +kernel
theorem d_m_isNumber_38 : decode M_m_isNumber.2.1 38 = .ok (.iadd, 1) := by decide +kernel
theorem d_m_isNumber_39 : decode M_m_isNumber.2.1 39 = .ok (.if_icmp .ge 56, 3) := by decide +kernel
theorem d_m_isNumber_42 : decode M_m_isNumber.2.1 42 = .ok (.iload 4, 2) := by decide +kernel
theorem d_m_isNumber_44 : decode M_m_isNumber.2.1 44 = .ok (.ifCond .eq 20, 3) := by decide +kernel
theorem d_m_isNumber_47 : decode M_m_isNumber.2.1 47 = .ok (.aload_n 0, 1) := by decide +kernel
theorem d_m_isNumber_48 : decode M_m_isNumber.2.1 48 = .ok (.iload_n 1, 1) := by decide +kernel
theorem d_m_isNumber_49 : decode M_m_isNumber.2.1 49 = .ok (.iload 5, 2) := by decide +kernel
theorem d_m_isNumber_51 : decode M_m_isNumber.2.1 51 = .ok (.invokevirtual 40, 3) := by decide +kernel
theorem d_m_isNumber_54 : decode M_m_isNumber.2.1 54 = .ok (.invokestatic 70, 3) := by decide +kernel
theorem d_m_isNumber_57 : decode M_m_isNumber.2.1 57 = .ok (.ifCond .eq 7, 3) := by decide +kernel
theorem d_m_isNumber_60 : decode M_m_isNumber.2.1 60 = .ok (.iconst 1, 1) := by decide +kernel
theorem d_m_isNumber_61 : decode M_m_isNumber.2.1 61 = .ok (.goto 4, 3) := by decide +kernel
theorem d_m_isNumber_64 : decode M_m_isNumber.2.1 64 = .ok (.iconst 0, 1) := by decide +kernel
theorem d_m_isNumber_65 : decode M_m_isNumber.2.1 65 = .ok (.istore 4, 2) := by decide +kernel
theorem d_m_isNumber_67 : decode M_m_isNumber.2.1 67 = .ok (.aload_n 0, 1) := by decide +kernel
theorem d_m_isNumber_68 : decode M_m_isNumber.2.1 68 = .ok (.bipush 10, 2) := by decide +kernel
theorem d_m_isNumber_70 : decode M_m_isNumber.2.1 70 = .ok (.aload_n 0, 1) := by decide +kernel
theorem d_m_isNumber_71 : decode M_m_isNumber.2.1 71 = .ok (.getfield 83, 3) := by decide +kernel
theorem d_m_isNumber_74 : decode M_m_isNumber.2.1 74 = .ok (.imul, 1) := by decide +kernel
theorem d_m_isNumber_75 : decode M_m_isNumber.2.1 75 = .ok (.aload_n 0, 1) := by decide +kernel
theorem d_m_isNumber_76 : decode M_m_isNumber.2.1 76 = .ok (.iload_n 1, 1) := by decide +kernel
theorem d_m_isNumber_77 : decode M_m_isNumber.2.1 77 = .ok (.iload 5, 2) := by decide +kernel
theorem d_m_isNumber_79 : decode M_m_isNumber.2.1 79 = .ok (.invokevirtual 40, 3) := by decide +kernel
theorem d_m_isNumber_82 : decode M_m_isNumber.2.1 82 = .ok (.iadd, 1) := by decide +kernel
theorem d_m_isNumber_83 : decode M_m_isNumber.2.1 83 = .ok (.bipush 48, 2) := by decide +kernel
theorem d_m_isNumber_85 : decode M_m_isNumber.2.1 85 = .ok (.isub, 1) := by decide +kernel
theorem d_m_isNumber_86 : decode M_m_isNumber.2.1 86 = .ok (.putfield 83, 3) := by decide +kernel
theorem d_m_isNumber_89 : decode M_m_isNumber.2.1 89 = .ok (.iinc 5 1, 3) := by decide +kernel
theorem d_m_isNumber_92 : decode M_m_isNumber.2.1 92 = .ok (.goto (-58), 3) := by decide +kernel
theorem d_m_isNumber_95 : decode M_m_isNumber.2.1 95 = .ok (.iload 4, 2) := by decide +kernel
theorem d_m_isNumber_97 : decode M_m_isNumber.2.1 97 = .ok (.ireturn, 1) := by decide +kernel
theorem d_m_isDigit_0 : decode M_m_isDigit.2.1 0 = .ok (.iload_n 0, 1) := by decide +kernel
theorem d_m_isDigit_1 : decode M_m_isDigit.2.1 1 = .ok (.bipush 48, 2) := by decide +kernel
theorem d_m_isDigit_3 : decode M_m_isDigit.2.1 3 = .ok (.if_icmp .lt 13, 3) := by decide +kernel
theorem d_m_isDigit_6 : decode M_m_isDigit.2.1 6 = .ok (.iload_n 0, 1) := by decide +kernel
theorem d_m_isDigit_7 : decode M_m_isDigit.2.1 7 = .ok (.bipush 57, 2) := by decide +kernel
theorem d_m_isDigit_9 : decode M_m_isDigit.2.1 9 = .ok (.if_icmp .gt 7, 3) := by decide +kernel
theorem d_m_isDigit_12 : decode M_m_isDigit.2.1 12 = .ok (.iconst 1, 1) := by decide +kernel
theorem d_m_isDigit_13 : decode M_m_isDigit.2.1 13 = .ok (.goto 4, 3) := by decide +kernel
theorem d_m_isDigit_16 : decode M_m_isDigit.2.1 16 = .ok (.iconst 0, 1) := by decide +kernel
theorem d_m_isDigit_17 : decode M_m_isDigit.2.1 17 = .ok (.ireturn, 1) := by decide +kernel
theorem d_m_nameAt_0 : decode M_m_nameAt.2.1 0 = .ok (.iconst 0, 1) := by decide +kernel
theorem d_m_nameAt_1 : decode M_m_nameAt.2.1 1 = .ok (.istore_n 3, 1) := by decide +kernel
theorem d_m_nameAt_2 : decode M_m_nameAt.2.1 2 = .ok (.iload_n 2, 1) := by decide +kernel
theorem d_m_nameAt_3 : decode M_m_nameAt.2.1 3 = .ok (.istore 4, 2) := by decide +kernel
theorem d_m_nameAt_5 : decode M_m_nameAt.2.1 5 = .ok (.iload 4, 2) := by decide +kernel
theorem d_m_nameAt_7 : decode M_m_nameAt.2.1 7 = .ok (.iload_n 2, 1) := by decide +kernel
theorem d_m_nameAt_8 : decode M_m_nameAt.2.1 8 = .ok (.bipush 6, 2) := by decide +kernel
theorem d_m_nameAt_10 : decode M_m_nameAt.2.1 10 = .ok (.iadd, 1) := by decide +kernel
theorem d_m_nameAt_11 : decode M_m_nameAt.2.1 11 = .ok (.if_icmp .ge 43, 3) := by decide +kernel
theorem d_m_nameAt_14 : decode M_m_nameAt.2.1 14 = .ok (.aload_n 0, 1) := by decide +kernel
theorem d_m_nameAt_15 : decode M_m_nameAt.2.1 15 = .ok (.iload_n 1, 1) := by decide +kernel
theorem d_m_nameAt_16 : decode M_m_nameAt.2.1 16 = .ok (.iload 4, 2) := by decide +kernel
theorem d_m_nameAt_18 : decode M_m_nameAt.2.1 18 = .ok (.invokevirtual 40, 3) := by decide +kernel
theorem d_m_nameAt_21 : decode M_m_nameAt.2.1 21 = .ok (.bipush 97, 2) := by decide +kernel
theorem d_m_nameAt_23 : decode M_m_nameAt.2.1 23 = .ok (.isub, 1) := by decide +kernel
theorem d_m_nameAt_24 : decode M_m_nameAt.2.1 24 = .ok (.istore 5, 2) := by decide +kernel
theorem d_m_nameAt_26 : decode M_m_nameAt.2.1 26 = .ok (.iload 5, 2) := by decide +kernel
theorem d_m_nameAt_28 : decode M_m_nameAt.2.1 28 = .ok (.ifCond .lt 10, 3) := by decide +kernel
theorem d_m_nameAt_31 : decode M_m_nameAt.2.1 31 = .ok (.iload 5, 2) := by decide +kernel
theorem d_m_nameAt_33 : decode M_m_nameAt.2.1 33 = .ok (.bipush 15, 2) := by decide +kernel
theorem d_m_nameAt_35 : decode M_m_nameAt.2.1 35 = .ok (.if_icmp .le 5, 3) := by decide +kernel
theorem d_m_nameAt_38 : decode M_m_nameAt.2.1 38 = .ok (.iconst (-1), 1) := by decide +kernel
theorem d_m_nameAt_39 : decode M_m_nameAt.2.1 39 = .ok (.ireturn, 1) := by decide +kernel
theorem d_m_nameAt_40 : decode M_m_nameAt.2.1 40 = .ok (.bipush 16, 2) := by decide +kernel
theorem d_m_nameAt_42 : decode M_m_nameAt.2.1 42 = .ok (.iload_n 3, 1) := by decide +kernel
theorem d_m_nameAt_43 : decode M_m_nameAt.2.1 43 = .ok (.imul, 1) := by decide +kernel
theorem d_m_nameAt_44 : decode M_m_nameAt.2.1 44 = .ok (.iload 5, 2) := by decide +kernel
theorem d_m_nameAt_46 : decode M_m_nameAt.2.1 46 = .ok (.iadd, 1) := by decide +kernel
theorem d_m_nameAt_47 : decode M_m_nameAt.2.1 47 = .ok (.istore_n 3, 1) := by decide +kernel
theorem d_m_nameAt_48 : decode M_m_nameAt.2.1 48 = .ok (.iinc 4 1, 3) := by decide +kernel
theorem d_m_nameAt_51 : decode M_m_nameAt.2.1 51 = .ok (.goto (-46), 3) := by decide +kernel
theorem d_m_nameAt_54 : decode M_m_nameAt.2.1 54 = .ok (.iload_n 3, 1) := by decide +kernel
theorem d_m_nameAt_55 : decode M_m_nameAt.2.1 55 = .ok (.ireturn, 1) := by decide +kernel
theorem d_m_isParent_0 : decode M_m_isParent.2.1 0 = .ok (.iload_n 3, 1) := by decide +kernel
theorem d_m_isParent_1 : decode M_m_isParent.2.1 1 = .ok (.bipush 8, 2) := by decide +kernel
theorem d_m_isParent_3 : decode M_m_isParent.2.1 3 = .ok (.if_icmp .eq 11, 3) := by decide +kernel
theorem d_m_isParent_6 : decode M_m_isParent.2.1 6 = .ok (.iload_n 3, 1) := by decide +kernel
theorem d_m_isParent_7 : decode M_m_isParent.2.1 7 = .ok (.bipush 15, 2) := by decide +kernel
theorem d_m_isParent_9 : decode M_m_isParent.2.1 9 = .ok (.if_icmp .eq 5, 3) := by decide +kernel
theorem d_m_isParent_12 : decode M_m_isParent.2.1 12 = .ok (.iconst 0, 1) := by decide +kernel
theorem d_m_isParent_13 : decode M_m_isParent.2.1 13 = .ok (.ireturn, 1) := by decide +kernel
theorem d_m_isParent_14 : decode M_m_isParent.2.1 14 = .ok (.aload_n 0, 1) := by decide +kernel
theorem d_m_isParent_15 : decode M_m_isParent.2.1 15 = .ok (.aload_n 0, 1) := by decide +kernel
theorem d_m_isParent_16 : decode M_m_isParent.2.1 16 = .ok (.iload_n 1, 1) := by decide +kernel
theorem d_m_isParent_17 : decode M_m_isParent.2.1 17 = .ok (.iload_n 2, 1) := by decide +kernel
theorem d_m_isParent_18 : decode M_m_isParent.2.1 18 = .ok (.iconst 2, 1) := by decide +kernel
theorem d_m_isParent_19 : decode M_m_isParent.2.1 19 = .ok (.iadd, 1) := by decide +kernel
theorem d_m_isParent_20 : decode M_m_isParent.2.1 20 = .ok (.invokevirtual 67, 3) := by decide +kernel
theorem d_m_isParent_23 : decode M_m_isParent.2.1 23 = .ok (.putfield 58, 3) := by decide +kernel
theorem d_m_isParent_26 : decode M_m_isParent.2.1 26 = .ok (.iload_n 3, 1) := by decide +kernel
theorem d_m_isParent_27 : decode M_m_isParent.2.1 27 = .ok (.bipush 8, 2) := by decide +kernel
theorem d_m_isParent_29 : decode M_m_isParent.2.1 29 = .ok (.if_icmp .eq 10, 3) := by decide +kernel
theorem d_m_isParent_32 : decode M_m_isParent.2.1 32 = .ok (.aload_n 0, 1) := by decide +kernel
theorem d_m_isParent_33 : decode M_m_isParent.2.1 33 = .ok (.getfield 58, 3) := by decide +kernel
theorem d_m_isParent_36 : decode M_m_isParent.2.1 36 = .ok (.ifCond .ge 16, 3) := by decide +kernel
theorem d_m_isParent_39 : decode M_m_isParent.2.1 39 = .ok (.aload_n 0, 1) := by decide +kernel
theorem d_m_isParent_40 : decode M_m_isParent.2.1 40 = .ok (.getfield 58, 3) := by decide +kernel
theorem d_m_isParent_43 : decode M_m_isParent.2.1 43 = .ok (.ifCond .lt 7, 3) := by decide +kernel
theorem d_m_isParent_46 : decode M_m_isParent.2.1 46 = .ok (.iconst 1, 1) := by decide +kernel
theorem d_m_isParent_47 : decode M_m_isParent.2.1 47 = .ok (.goto 4, 3) := by decide +kernel
theorem d_m_isParent_50 : decode M_m_isParent.2.1 50 = .ok (.iconst 0, 1) := by decide +kernel
theorem d_m_isParent_51 : decode M_m_isParent.2.1 51 = .ok (.ireturn, 1) := by decide +kernel
theorem d_m_isParent_52 : decode M_m_isParent.2.1 52 = .ok (.aload_n 0, 1) := by decide +kernel
theorem d_m_isParent_53 : decode M_m_isParent.2.1 53 = .ok (.aload_n 0, 1) := by decide +kernel
theorem d_m_isParent_54 : decode M_m_isParent.2.1 54 = .ok (.iload_n 1, 1) := by decide +kernel
theorem d_m_isParent_55 : decode M_m_isParent.2.1 55 = .ok (.iload_n 2, 1) := by decide +kernel
theorem d_m_isParent_56 : decode M_m_isParent.2.1 56 = .ok (.bipush 9, 2) := by decide +kernel
theorem d_m_isParent_58 : decode M_m_isParent.2.1 58 = .ok (.iadd, 1) := by decide +kernel
theorem d_m_isParent_59 : decode M_m_isParent.2.1 59 = .ok (.invokevirtual 67, 3) := by decide +kernel
theorem d_m_isParent_62 : decode M_m_isParent.2.1 62 = .ok (.putfield 61, 3) := by decide +kernel
theorem d_m_isParent_65 : decode M_m_isParent.2.1 65 = .ok (.aload_n 0, 1) := by decide +kernel
theorem d_m_isParent_66 : decode M_m_isParent.2.1 66 = .ok (.iload_n 1, 1) := by decide +kernel
theorem d_m_isParent_67 : decode M_m_isParent.2.1 67 = .ok (.iload_n 2, 1) := by decide +kernel
theorem d_m_isParent_68 : decode M_m_isParent.2.1 68 = .ok (.bipush 8, 2) := by decide +kernel
theorem d_m_isParent_70 : decode M_m_isParent.2.1 70 = .ok (.iadd, 1) := by decide +kernel
theorem d_m_isParent_71 : decode M_m_isParent.2.1 71 = .ok (.invokevirtual 40, 3) := by decide +kernel
theorem d_m_isParent_74 : decode M_m_isParent.2.1 74 = .ok (.bipush 32, 2) := by decide +kernel
theorem d_m_isParent_76 : decode M_m_isParent.2.1 76 = .ok (.if_icmp .ne 25, 3) := by decide +kernel
theorem d_m_isParent_79 : decode M_m_isParent.2.1 79 = .ok (.aload_n 0, 1) := by decide +kernel
theorem d_m_isParent_80 : decode M_m_isParent.2.1 80 = .ok (.getfield 61, 3) := by decide +kernel
theorem d_m_isParent_83 : decode M_m_isParent.2.1 83 = .ok (.ifCond .lt 18, 3) := by decide +kernel
theorem d_m_isParent_86 : decode M_m_isParent.2.1 86 = .ok (.aload_n 0, 1) := by decide +kernel
theorem d_m_isParent_87 : decode M_m_isParent.2.1 87 = .ok (.getfield 58, 3) := by decide +kernel
theorem d_m_isParent_90 : decode M_m_isParent.2.1 90 = .ok (.aload_n 0, 1) := by decide +kernel
theorem d_m_isParent_91 : decode M_m_isParent.2.1 91 = .ok (.getfield 61, 3) := by decide +kernel
theorem d_m_isParent_94 : decode M_m_isParent.2.1 94 = .ok (.if_icmp .eq 7, 3) := by decide +kernel
theorem d_m_isParent_97 : decode M_m_isParent.2.1 97 = .ok (.iconst 1, 1) := by decide +kernel
theorem d_m_isParent_98 : decode M_m_isParent.2.1 98 = .ok (.goto 4, 3) := by decide +kernel
theorem d_m_isParent_101 : decode M_m_isParent.2.1 101 = .ok (.iconst 0, 1) := by decide +kernel
theorem d_m_isParent_102 : decode M_m_isParent.2.1 102 = .ok (.ireturn, 1) := by decide +kernel
theorem d_m_isTag_0 : decode M_m_isTag.2.1 0 = .ok (.iload_n 3, 1) := by decide +kernel
theorem d_m_isTag_1 : decode M_m_isTag.2.1 1 = .ok (.bipush 6, 2) := by decide +kernel
theorem d_m_isTag_3 : decode M_m_isTag.2.1 3 = .ok (.if_icmp .eq 11, 3) := by decide +kernel
theorem d_m_isTag_6 : decode M_m_isTag.2.1 6 = .ok (.iload_n 3, 1) := by decide +kernel
theorem d_m_isTag_7 : decode M_m_isTag.2.1 7 = .ok (.bipush 11, 2) := by decide +kernel
theorem d_m_isTag_9 : decode M_m_isTag.2.1 9 = .ok (.if_icmp .eq 5, 3) := by decide +kernel
theorem d_m_isTag_12 : decode M_m_isTag.2.1 12 = .ok (.iconst 0, 1) := by decide +kernel
theorem d_m_isTag_13 : decode M_m_isTag.2.1 13 = .ok (.ireturn, 1) := by decide +kernel
theorem d_m_isTag_14 : decode M_m_isTag.2.1 14 = .ok (.aload_n 0, 1) := by decide +kernel
theorem d_m_isTag_15 : decode M_m_isTag.2.1 15 = .ok (.iload_n 1, 1) := by decide +kernel
theorem d_m_isTag_16 : decode M_m_isTag.2.1 16 = .ok (.iload_n 2, 1) := by decide +kernel
theorem d_m_isTag_17 : decode M_m_isTag.2.1 17 = .ok (.iconst 2, 1) := by decide +kernel
theorem d_m_isTag_18 : decode M_m_isTag.2.1 18 = .ok (.iadd, 1) := by decide +kernel
theorem d_m_isTag_19 : decode M_m_isTag.2.1 19 = .ok (.invokevirtual 40, 3) := by decide +kernel
theorem d_m_isTag_22 : decode M_m_isTag.2.1 22 = .ok (.istore 4, 2) := by decide +kernel
theorem d_m_isTag_24 : decode M_m_isTag.2.1 24 = .ok (.iload 4, 2) := by decide +kernel
theorem d_m_isTag_26 : decode M_m_isTag.2.1 26 = .ok (.bipush 43, 2) := by decide +kernel
theorem d_m_isTag_28 : decode M_m_isTag.2.1 28 = .ok (.if_icmp .eq 10, 3) := by decide +kernel
theorem d_m_isTag_31 : decode M_m_isTag.2.1 31 = .ok (.iload 4, 2) := by decide +kernel
theorem d_m_isTag_33 : decode M_m_isTag.2.1 33 = .ok (.bipush 45, 2) := by decide +kernel
theorem d_m_isTag_35 : decode M_m_isTag.2.1 35 = .ok (.if_icmp .ne 30, 3) := by decide +kernel
theorem d_m_isTag_38 : decode M_m_isTag.2.1 38 = .ok (.aload_n 0, 1) := by decide +kernel
theorem d_m_isTag_39 : decode M_m_isTag.2.1 39 = .ok (.iload_n 1, 1) := by decide +kernel
theorem d_m_isTag_40 : decode M_m_isTag.2.1 40 = .ok (.iload_n 2, 1) := by decide +kernel
theorem d_m_isTag_41 : decode M_m_isTag.2.1 41 = .ok (.iconst 3, 1) := by decide +kernel
theorem d_m_isTag_42 : decode M_m_isTag.2.1 42 = .ok (.iadd, 1) := by decide +kernel
theorem d_m_isTag_43 : decode M_m_isTag.2.1 43 = .ok (.invokevirtual 40, 3) := by decide +kernel
theorem d_m_isTag_46 : decode M_m_isTag.2.1 46 = .ok (.invokestatic 70, 3) := by decide +kernel
theorem d_m_isTag_49 : decode M_m_isTag.2.1 49 = .ok (.ifCond .eq 16, 3) := by decide +kernel
theorem d_m_isTag_52 : decode M_m_isTag.2.1 52 = .ok (.aload_n 0, 1) := by decide +kernel
theorem d_m_isTag_53 : decode M_m_isTag.2.1 53 = .ok (.iload_n 1, 1) := by decide +kernel
theorem d_m_isTag_54 : decode M_m_isTag.2.1 54 = .ok (.iload_n 2, 1) := by decide +kernel
theorem d_m_isTag_55 : decode M_m_isTag.2.1 55 = .ok (.iconst 4, 1) := by decide +kernel
theorem d_m_isTag_56 : decode M_m_isTag.2.1 56 = .ok (.iadd, 1) := by decide +kernel
theorem d_m_isTag_57 : decode M_m_isTag.2.1 57 = .ok (.invokevirtual 40, 3) := by decide +kernel
theorem d_m_isTag_60 : decode M_m_isTag.2.1 60 = .ok (.bipush 32, 2) := by decide +kernel
theorem d_m_isTag_62 : decode M_m_isTag.2.1 62 = .ok (.if_icmp .eq 5, 3) := by decide +kernel
theorem d_m_isTag_65 : decode M_m_isTag.2.1 65 = .ok (.iconst 0, 1) := by decide +kernel
theorem d_m_isTag_66 : decode M_m_isTag.2.1 66 = .ok (.ireturn, 1) := by decide +kernel
theorem d_m_isTag_67 : decode M_m_isTag.2.1 67 = .ok (.aload_n 0, 1) := by decide +kernel
theorem d_m_isTag_68 : decode M_m_isTag.2.1 68 = .ok (.iload 4, 2) := by decide +kernel
theorem d_m_isTag_70 : decode M_m_isTag.2.1 70 = .ok (.bipush 43, 2) := by decide +kernel
theorem d_m_isTag_72 : decode M_m_isTag.2.1 72 = .ok (.if_icmp .ne 7, 3) := by decide +kernel
theorem d_m_isTag_75 : decode M_m_isTag.2.1 75 = .ok (.iconst 1, 1) := by decide +kernel
theorem d_m_isTag_76 : decode M_m_isTag.2.1 76 = .ok (.goto 4, 3) := by decide +kernel
theorem d_m_isTag_79 : decode M_m_isTag.2.1 79 = .ok (.iconst 0, 1) := by decide +kernel
theorem d_m_isTag_80 : decode M_m_isTag.2.1 80 = .ok (.putfield 86, 3) := by decide +kernel
theorem d_m_isTag_83 : decode M_m_isTag.2.1 83 = .ok (.aload_n 0, 1) := by decide +kernel
theorem d_m_isTag_84 : decode M_m_isTag.2.1 84 = .ok (.aload_n 0, 1) := by decide +kernel
theorem d_m_isTag_85 : decode M_m_isTag.2.1 85 = .ok (.iload_n 1, 1) := by decide +kernel
theorem d_m_isTag_86 : decode M_m_isTag.2.1 86 = .ok (.iload_n 2, 1) := by decide +kernel
theorem d_m_isTag_87 : decode M_m_isTag.2.1 87 = .ok (.iconst 3, 1) := by decide +kernel
theorem d_m_isTag_88 : decode M_m_isTag.2.1 88 = .ok (.iadd, 1) := by decide +kernel
theorem d_m_isTag_89 : decode M_m_isTag.2.1 89 = .ok (.invokevirtual 40, 3) := by decide +kernel
theorem d_m_isTag_92 : decode M_m_isTag.2.1 92 = .ok (.bipush 48, 2) := by decide +kernel
theorem d_m_isTag_94 : decode M_m_isTag.2.1 94 = .ok (.isub, 1) := by decide +kernel
theorem d_m_isTag_95 : decode M_m_isTag.2.1 95 = .ok (.putfield 74, 3) := by decide +kernel
theorem d_m_isTag_98 : decode M_m_isTag.2.1 98 = .ok (.iload_n 3, 1) := by decide +kernel
theorem d_m_isTag_99 : decode M_m_isTag.2.1 99 = .ok (.bipush 6, 2) := by decide +kernel
theorem d_m_isTag_101 : decode M_m_isTag.2.1 101 = .ok (.if_icmp .ne 22, 3) := by decide +kernel
theorem d_m_isTag_104 : decode M_m_isTag.2.1 104 = .ok (.aload_n 0, 1) := by decide +kernel
theorem d_m_isTag_105 : decode M_m_isTag.2.1 105 = .ok (.iload_n 1, 1) := by decide +kernel
theorem d_m_isTag_106 : decode M_m_isTag.2.1 106 = .ok (.iload_n 2, 1) := by decide +kernel
theorem d_m_isTag_107 : decode M_m_isTag.2.1 107 = .ok (.iconst 5, 1) := by decide +kernel
theorem d_m_isTag_108 : decode M_m_isTag.2.1 108 = .ok (.iadd, 1) := by decide +kernel
theorem d_m_isTag_109 : decode M_m_isTag.2.1 109 = .ok (.invokevirtual 40, 3) := by decide +kernel
theorem d_m_isTag_112 : decode M_m_isTag.2.1 112 = .ok (.bipush 42, 2) := by decide +kernel
theorem d_m_isTag_114 : decode M_m_isTag.2.1 114 = .ok (.if_icmp .ne 7, 3) := by decide +kernel
theorem d_m_isTag_117 : decode M_m_isTag.2.1 117 = .ok (.iconst 1, 1) := by decide +kernel
theorem d_m_isTag_118 : decode M_m_isTag.2.1 118 = .ok (.goto 4, 3) := by decide +kernel
theorem d_m_isTag_121 : decode M_m_isTag.2.1 121 = .ok (.iconst 0, 1) := by decide +kernel
theorem d_m_isTag_122 : decode M_m_isTag.2.1 122 = .ok (.ireturn, 1) := by decide +kernel
theorem d_m_isTag_123 : decode M_m_isTag.2.1 123 = .ok (.aload_n 0, 1) := by decide +kernel
theorem d_m_isTag_124 : decode M_m_isTag.2.1 124 = .ok (.aload_n 0, 1) := by decide +kernel
theorem d_m_isTag_125 : decode M_m_isTag.2.1 125 = .ok (.iload_n 1, 1) := by decide +kernel
theorem d_m_isTag_126 : decode M_m_isTag.2.1 126 = .ok (.iload_n 2, 1) := by decide +kernel
theorem d_m_isTag_127 : decode M_m_isTag.2.1 127 = .ok (.iconst 5, 1) := by decide +kernel
theorem d_m_isTag_128 : decode M_m_isTag.2.1 128 = .ok (.iadd, 1) := by decide +kernel
theorem d_m_isTag_129 : decode M_m_isTag.2.1 129 = .ok (.invokevirtual 67, 3) := by decide +kernel
theorem d_m_isTag_132 : decode M_m_isTag.2.1 132 = .ok (.putfield 58, 3) := by decide +kernel
theorem d_m_isTag_135 : decode M_m_isTag.2.1 135 = .ok (.aload_n 0, 1) := by decide +kernel
theorem d_m_isTag_136 : decode M_m_isTag.2.1 136 = .ok (.getfield 58, 3) := by decide +kernel
theorem d_m_isTag_139 : decode M_m_isTag.2.1 139 = .ok (.ifCond .lt 7, 3) := by decide +kernel
theorem d_m_isTag_142 : decode M_m_isTag.2.1 142 = .ok (.iconst 1, 1) := by decide +kernel
theorem d_m_isTag_143 : decode M_m_isTag.2.1 143 = .ok (.goto 4, 3) := by decide +kernel
theorem d_m_isTag_146 : decode M_m_isTag.2.1 146 = .ok (.iconst 0, 1) := by decide +kernel
theorem d_m_isTag_147 : decode M_m_isTag.2.1 147 = .ok (.ireturn, 1) := by decide +kernel
theorem d_m_find_0 : decode M_m_find.2.1 0 = .ok (.bipush 32, 2) := by decide +kernel
theorem d_m_find_2 : decode M_m_find.2.1 2 = .ok (.iload_n 1, 1) := by decide +kernel
theorem d_m_find_3 : decode M_m_find.2.1 3 = .ok (.imul, 1) := by decide +kernel
theorem d_m_find_4 : decode M_m_find.2.1 4 = .ok (.istore_n 3, 1) := by decide +kernel
theorem d_m_find_5 : decode M_m_find.2.1 5 = .ok (.iload_n 3, 1) := by decide +kernel
theorem d_m_find_6 : decode M_m_find.2.1 6 = .ok (.bipush 32, 2) := by decide +kernel
theorem d_m_find_8 : decode M_m_find.2.1 8 = .ok (.iload_n 1, 1) := by decide +kernel
theorem d_m_find_9 : decode M_m_find.2.1 9 = .ok (.imul, 1) := by decide +kernel
theorem d_m_find_10 : decode M_m_find.2.1 10 = .ok (.aload_n 0, 1) := by decide +kernel
theorem d_m_find_11 : decode M_m_find.2.1 11 = .ok (.getfield 20, 3) := by decide +kernel
theorem d_m_find_14 : decode M_m_find.2.1 14 = .ok (.iload_n 1, 1) := by decide +kernel
theorem d_m_find_15 : decode M_m_find.2.1 15 = .ok (.iaload, 1) := by decide +kernel
theorem d_m_find_16 : decode M_m_find.2.1 16 = .ok (.iadd, 1) := by decide +kernel
theorem d_m_find_17 : decode M_m_find.2.1 17 = .ok (.if_icmp .ge 21, 3) := by decide +kernel
theorem d_m_find_20 : decode M_m_find.2.1 20 = .ok (.aload_n 0, 1) := by decide +kernel
theorem d_m_find_21 : decode M_m_find.2.1 21 = .ok (.getfield 17, 3) := by decide +kernel
theorem d_m_find_24 : decode M_m_find.2.1 24 = .ok (.iload_n 3, 1) := by decide +kernel
theorem d_m_find_25 : decode M_m_find.2.1 25 = .ok (.iaload, 1) := by decide +kernel
theorem d_m_find_26 : decode M_m_find.2.1 26 = .ok (.iload_n 2, 1) := by decide +kernel
theorem d_m_find_27 : decode M_m_find.2.1 27 = .ok (.if_icmp .ne 5, 3) := by decide +kernel
theorem d_m_find_30 : decode M_m_find.2.1 30 = .ok (.iload_n 3, 1) := by decide +kernel
theorem d_m_find_31 : decode M_m_find.2.1 31 = .ok (.ireturn, 1) := by decide +kernel
theorem d_m_find_32 : decode M_m_find.2.1 32 = .ok (.iinc 3 1, 3) := by decide +kernel
theorem d_m_find_35 : decode M_m_find.2.1 35 = .ok (.goto (-30), 3) := by decide +kernel
theorem d_m_find_38 : decode M_m_find.2.1 38 = .ok (.iconst (-1), 1) := by decide +kernel
theorem d_m_find_39 : decode M_m_find.2.1 39 = .ok (.ireturn, 1) := by decide +kernel
theorem d_m_put_0 : decode M_m_put.2.1 0 = .ok (.iload_n 1, 1) := by decide +kernel
theorem d_m_put_1 : decode M_m_put.2.1 1 = .ok (.invokestatic 129, 3) := by decide +kernel
theorem d_m_put_4 : decode M_m_put.2.1 4 = .ok (.ifCond .eq 13, 3) := by decide +kernel
theorem d_m_put_7 : decode M_m_put.2.1 7 = .ok (.aload_n 0, 1) := by decide +kernel
theorem d_m_put_8 : decode M_m_put.2.1 8 = .ok (.getfield 13, 3) := by decide +kernel
theorem d_m_put_11 : decode M_m_put.2.1 11 = .ok (.bipush 64, 2) := by decide +kernel
theorem d_m_put_13 : decode M_m_put.2.1 13 = .ok (.iaload, 1) := by decide +kernel
theorem d_m_put_14 : decode M_m_put.2.1 14 = .ok (.ifCond .ne 5, 3) := by decide +kernel
theorem d_m_put_17 : decode M_m_put.2.1 17 = .ok (.iconst (-1), 1) := by decide +kernel
theorem d_m_put_18 : decode M_m_put.2.1 18 = .ok (.ireturn, 1) := by decide +kernel
theorem d_m_put_19 : decode M_m_put.2.1 19 = .ok (.aload_n 0, 1) := by decide +kernel
theorem d_m_put_20 : decode M_m_put.2.1 20 = .ok (.bipush 7, 2) := by decide +kernel
theorem d_m_put_22 : decode M_m_put.2.1 22 = .ok (.bipush 64, 2) := by decide +kernel
theorem d_m_put_24 : decode M_m_put.2.1 24 = .ok (.aload_n 0, 1) := by decide +kernel
theorem d_m_put_25 : decode M_m_put.2.1 25 = .ok (.getfield 13, 3) := by decide +kernel
theorem d_m_put_28 : decode M_m_put.2.1 28 = .ok (.bipush 64, 2) := by decide +kernel
theorem d_m_put_30 : decode M_m_put.2.1 30 = .ok (.iaload, 1) := by decide +kernel
theorem d_m_put_31 : decode M_m_put.2.1 31 = .ok (.invokevirtual 94, 3) := by decide +kernel
theorem d_m_put_34 : decode M_m_put.2.1 34 = .ok (.istore_n 2, 1) := by decide +kernel
theorem d_m_put_35 : decode M_m_put.2.1 35 = .ok (.aload_n 0, 1) := by decide +kernel
theorem d_m_put_36 : decode M_m_put.2.1 36 = .ok (.getfield 20, 3) := by decide +kernel
theorem d_m_put_39 : decode M_m_put.2.1 39 = .ok (.iload_n 1, 1) := by decide +kernel
theorem d_m_put_40 : decode M_m_put.2.1 40 = .ok (.iaload, 1) := by decide +kernel
theorem d_m_put_41 : decode M_m_put.2.1 41 = .ok (.bipush 32, 2) := by decide +kernel
theorem d_m_put_43 : decode M_m_put.2.1 43 = .ok (.if_icmp .ne 14, 3) := by decide +kernel
theorem d_m_put_46 : decode M_m_put.2.1 46 = .ok (.aload_n 0, 1) := by decide +kernel
theorem d_m_put_47 : decode M_m_put.2.1 47 = .ok (.iload_n 1, 1) := by decide +kernel
theorem d_m_put_48 : decode M_m_put.2.1 48 = .ok (.iload_n 2, 1) := by decide +kernel
theorem d_m_put_49 : decode M_m_put.2.1 49 = .ok (.invokevirtual 98, 3) := by decide +kernel
theorem d_m_put_52 : decode M_m_put.2.1 52 = .ok (.ifCond .ge 5, 3) := by decide +kernel
theorem d_m_put_55 : decode M_m_put.2.1 55 = .ok (.iconst (-1), 1) := by decide +kernel
theorem d_m_put_56 : decode M_m_put.2.1 56 = .ok (.ireturn, 1) := by decide +kernel
theorem d_m_put_57 : decode M_m_put.2.1 57 = .ok (.aload_n 0, 1) := by decide +kernel
theorem d_m_put_58 : decode M_m_put.2.1 58 = .ok (.iload_n 1, 1) := by decide +kernel
theorem d_m_put_59 : decode M_m_put.2.1 59 = .ok (.bipush 64, 2) := by decide +kernel
theorem d_m_put_61 : decode M_m_put.2.1 61 = .ok (.iload_n 2, 1) := by decide +kernel
theorem d_m_put_62 : decode M_m_put.2.1 62 = .ok (.invokevirtual 132, 3) := by decide +kernel
theorem d_m_put_65 : decode M_m_put.2.1 65 = .ok (.aload_n 0, 1) := by decide +kernel
theorem d_m_put_66 : decode M_m_put.2.1 66 = .ok (.getfield 13, 3) := by decide +kernel
theorem d_m_put_69 : decode M_m_put.2.1 69 = .ok (.bipush 64, 2) := by decide +kernel
theorem d_m_put_71 : decode M_m_put.2.1 71 = .ok (.iconst 0, 1) := by decide +kernel
theorem d_m_put_72 : decode M_m_put.2.1 72 = .ok (.iastore, 1) := by decide +kernel
theorem d_m_put_73 : decode M_m_put.2.1 73 = .ok (.iload_n 2, 1) := by decide +kernel
theorem d_m_put_74 : decode M_m_put.2.1 74 = .ok (.ireturn, 1) := by decide +kernel
theorem d_m_hold_0 : decode M_m_hold.2.1 0 = .ok (.aload_n 0, 1) := by decide +kernel
theorem d_m_hold_1 : decode M_m_hold.2.1 1 = .ok (.iload_n 1, 1) := by decide +kernel
theorem d_m_hold_2 : decode M_m_hold.2.1 2 = .ok (.iload_n 3, 1) := by decide +kernel
theorem d_m_hold_3 : decode M_m_hold.2.1 3 = .ok (.invokevirtual 98, 3) := by decide +kernel
theorem d_m_hold_6 : decode M_m_hold.2.1 6 = .ok (.ifCond .ge 14, 3) := by decide +kernel
theorem d_m_hold_9 : decode M_m_hold.2.1 9 = .ok (.aload_n 0, 1) := by decide +kernel
theorem d_m_hold_10 : decode M_m_hold.2.1 10 = .ok (.getfield 20, 3) := by decide +kernel
theorem d_m_hold_13 : decode M_m_hold.2.1 13 = .ok (.iload_n 1, 1) := by decide +kernel
theorem d_m_hold_14 : decode M_m_hold.2.1 14 = .ok (.iaload, 1) := by decide +kernel
theorem d_m_hold_15 : decode M_m_hold.2.1 15 = .ok (.bipush 32, 2) := by decide +kernel
theorem d_m_hold_17 : decode M_m_hold.2.1 17 = .ok (.if_icmp .ne 4, 3) := by decide +kernel
theorem d_m_hold_20 : decode M_m_hold.2.1 20 = .ok (.return_, 1) := by decide +kernel
theorem d_m_hold_21 : decode M_m_hold.2.1 21 = .ok (.bipush 32, 2) := by decide +kernel
theorem d_m_hold_23 : decode M_m_hold.2.1 23 = .ok (.iload_n 1, 1) := by decide +kernel
theorem d_m_hold_24 : decode M_m_hold.2.1 24 = .ok (.imul, 1) := by decide +kernel
theorem d_m_hold_25 : decode M_m_hold.2.1 25 = .ok (.aload_n 0, 1) := by decide +kernel
theorem d_m_hold_26 : decode M_m_hold.2.1 26 = .ok (.getfield 20, 3) := by decide +kernel
theorem d_m_hold_29 : decode M_m_hold.2.1 29 = .ok (.iload_n 1, 1) := by decide +kernel
theorem d_m_hold_30 : decode M_m_hold.2.1 30 = .ok (.iaload, 1) := by decide +kernel
theorem d_m_hold_31 : decode M_m_hold.2.1 31 = .ok (.iadd, 1) := by decide +kernel
theorem d_m_hold_32 : decode M_m_hold.2.1 32 = .ok (.istore 4, 2) := by decide +kernel
theorem d_m_hold_34 : decode M_m_hold.2.1 34 = .ok (.iconst 0, 1) := by decide +kernel
theorem d_m_hold_35 : decode M_m_hold.2.1 35 = .ok (.istore 5, 2) := by decide +kernel
theorem d_m_hold_37 : decode M_m_hold.2.1 37 = .ok (.iload 5, 2) := by decide +kernel
theorem d_m_hold_39 : decode M_m_hold.2.1 39 = .ok (.aload_n 0, 1) := by decide +kernel
theorem d_m_hold_40 : decode M_m_hold.2.1 40 = .ok (.getfield 13, 3) := by decide +kernel
theorem d_m_hold_43 : decode M_m_hold.2.1 43 = .ok (.iload_n 2, 1) := by decide +kernel
theorem d_m_hold_44 : decode M_m_hold.2.1 44 = .ok (.iaload, 1) := by decide +kernel
theorem d_m_hold_45 : decode M_m_hold.2.1 45 = .ok (.if_icmp .ge 36, 3) := by decide +kernel
theorem d_m_hold_48 : decode M_m_hold.2.1 48 = .ok (.aload_n 0, 1) := by decide +kernel
theorem d_m_hold_49 : decode M_m_hold.2.1 49 = .ok (.getfield 7, 3) := by decide +kernel
theorem d_m_hold_52 : decode M_m_hold.2.1 52 = .ok (.sipush 240, 3) := by decide +kernel
theorem d_m_hold_55 : decode M_m_hold.2.1 55 = .ok (.iload 4, 2) := by decide +kernel
theorem d_m_hold_57 : decode M_m_hold.2.1 57 = .ok (.imul, 1) := by decide +kernel
theorem d_m_hold_58 : decode M_m_hold.2.1 58 = .ok (.iload 5, 2) := by decide +kernel
theorem d_m_hold_60 : decode M_m_hold.2.1 60 = .ok (.iadd, 1) := by decide +kernel
theorem d_m_hold_61 : decode M_m_hold.2.1 61 = .ok (.aload_n 0, 1) := by decide +kernel
theorem d_m_hold_62 : decode M_m_hold.2.1 62 = .ok (.getfield 7, 3) := by decide +kernel
theorem d_m_hold_65 : decode M_m_hold.2.1 65 = .ok (.sipush 240, 3) := by decide +kernel
theorem d_m_hold_68 : decode M_m_hold.2.1 68 = .ok (.iload_n 2, 1) := by decide +kernel
theorem d_m_hold_69 : decode M_m_hold.2.1 69 = .ok (.imul, 1) := by decide +kernel
theorem d_m_hold_70 : decode M_m_hold.2.1 70 = .ok (.iload 5, 2) := by decide +kernel
theorem d_m_hold_72 : decode M_m_hold.2.1 72 = .ok (.iadd, 1) := by decide +kernel
theorem d_m_hold_73 : decode M_m_hold.2.1 73 = .ok (.baload, 1) := by decide +kernel
theorem d_m_hold_74 : decode M_m_hold.2.1 74 = .ok (.bastore, 1) := by decide +kernel
theorem d_m_hold_75 : decode M_m_hold.2.1 75 = .ok (.iinc 5 1, 3) := by decide +kernel
theorem d_m_hold_78 : decode M_m_hold.2.1 78 = .ok (.goto (-41), 3) := by decide +kernel
theorem d_m_hold_81 : decode M_m_hold.2.1 81 = .ok (.aload_n 0, 1) := by decide +kernel
theorem d_m_hold_82 : decode M_m_hold.2.1 82 = .ok (.getfield 13, 3) := by decide +kernel
theorem d_m_hold_85 : decode M_m_hold.2.1 85 = .ok (.iload 4, 2) := by decide +kernel
theorem d_m_hold_87 : decode M_m_hold.2.1 87 = .ok (.aload_n 0, 1) := by decide +kernel
theorem d_m_hold_88 : decode M_m_hold.2.1 88 = .ok (.getfield 13, 3) := by decide +kernel
theorem d_m_hold_91 : decode M_m_hold.2.1 91 = .ok (.iload_n 2, 1) := by decide +kernel
theorem d_m_hold_92 : decode M_m_hold.2.1 92 = .ok (.iaload, 1) := by decide +kernel
theorem d_m_hold_93 : decode M_m_hold.2.1 93 = .ok (.iastore, 1) := by decide +kernel
theorem d_m_hold_94 : decode M_m_hold.2.1 94 = .ok (.aload_n 0, 1) := by decide +kernel
theorem d_m_hold_95 : decode M_m_hold.2.1 95 = .ok (.getfield 17, 3) := by decide +kernel
theorem d_m_hold_98 : decode M_m_hold.2.1 98 = .ok (.iload 4, 2) := by decide +kernel
theorem d_m_hold_100 : decode M_m_hold.2.1 100 = .ok (.iload_n 3, 1) := by decide +kernel
theorem d_m_hold_101 : decode M_m_hold.2.1 101 = .ok (.iastore, 1) := by decide +kernel
theorem d_m_hold_102 : decode M_m_hold.2.1 102 = .ok (.aload_n 0, 1) := by decide +kernel
theorem d_m_hold_103 : decode M_m_hold.2.1 103 = .ok (.getfield 20, 3) := by decide +kernel
theorem d_m_hold_106 : decode M_m_hold.2.1 106 = .ok (.iload_n 1, 1) := by decide +kernel
theorem d_m_hold_107 : decode M_m_hold.2.1 107 = .ok (.dup2, 1) := by decide +kernel
theorem d_m_hold_108 : decode M_m_hold.2.1 108 = .ok (.iaload, 1) := by decide +kernel
theorem d_m_hold_109 : decode M_m_hold.2.1 109 = .ok (.iconst 1, 1) := by decide +kernel
theorem d_m_hold_110 : decode M_m_hold.2.1 110 = .ok (.iadd, 1) := by decide +kernel
theorem d_m_hold_111 : decode M_m_hold.2.1 111 = .ok (.iastore, 1) := by decide +kernel
theorem d_m_hold_112 : decode M_m_hold.2.1 112 = .ok (.return_, 1) := by decide +kernel
theorem d_m_round_0 : decode M_m_round.2.1 0 = .ok (.iload_n 1, 1) := by decide +kernel
theorem d_m_round_1 : decode M_m_round.2.1 1 = .ok (.ifCond .lt 10, 3) := by decide +kernel
theorem d_m_round_4 : decode M_m_round.2.1 4 = .ok (.iload_n 1, 1) := by decide +kernel
theorem d_m_round_5 : decode M_m_round.2.1 5 = .ok (.sipush 10000, 3) := by decide +kernel
theorem d_m_round_8 : decode M_m_round.2.1 8 = .ok (.if_icmp .le 5, 3) := by decide +kernel
theorem d_m_round_11 : decode M_m_round.2.1 11 = .ok (.iconst (-1), 1) := by decide +kernel
theorem d_m_round_12 : decode M_m_round.2.1 12 = .ok (.ireturn, 1) := by decide +kernel
theorem d_m_round_13 : decode M_m_round.2.1 13 = .ok (.aload_n 0, 1) := by decide +kernel
theorem d_m_round_14 : decode M_m_round.2.1 14 = .ok (.iconst 0, 1) := by decide +kernel
theorem d_m_round_15 : decode M_m_round.2.1 15 = .ok (.invokevirtual 158, 3) := by decide +kernel
theorem d_m_round_18 : decode M_m_round.2.1 18 = .ok (.aload_n 0, 1) := by decide +kernel
theorem d_m_round_19 : decode M_m_round.2.1 19 = .ok (.iconst 1, 1) := by decide +kernel
theorem d_m_round_20 : decode M_m_round.2.1 20 = .ok (.invokevirtual 158, 3) := by decide +kernel
theorem d_m_round_23 : decode M_m_round.2.1 23 = .ok (.aload_n 0, 1) := by decide +kernel
theorem d_m_round_24 : decode M_m_round.2.1 24 = .ok (.iconst 0, 1) := by decide +kernel
theorem d_m_round_25 : decode M_m_round.2.1 25 = .ok (.iload_n 1, 1) := by decide +kernel
theorem d_m_round_26 : decode M_m_round.2.1 26 = .ok (.invokevirtual 161, 3) := by decide +kernel
theorem d_m_round_29 : decode M_m_round.2.1 29 = .ok (.istore_n 2, 1) := by decide +kernel
theorem d_m_round_30 : decode M_m_round.2.1 30 = .ok (.iload_n 2, 1) := by decide +kernel
theorem d_m_round_31 : decode M_m_round.2.1 31 = .ok (.aload_n 0, 1) := by decide +kernel
theorem d_m_round_32 : decode M_m_round.2.1 32 = .ok (.iconst 1, 1) := by decide +kernel
theorem d_m_round_33 : decode M_m_round.2.1 33 = .ok (.iload_n 1, 1) := by decide +kernel
theorem d_m_round_34 : decode M_m_round.2.1 34 = .ok (.invokevirtual 161, 3) := by decide +kernel
theorem d_m_round_37 : decode M_m_round.2.1 37 = .ok (.iadd, 1) := by decide +kernel
theorem d_m_round_38 : decode M_m_round.2.1 38 = .ok (.ireturn, 1) := by decide +kernel
theorem d_m_makeCluster_0 : decode M_m_makeCluster.2.1 0 = .ok (.aload_n 0, 1) := by decide +kernel
theorem d_m_makeCluster_1 : decode M_m_makeCluster.2.1 1 = .ok (.iload_n 1, 1) := by decide +kernel
theorem d_m_makeCluster_2 : decode M_m_makeCluster.2.1 2 = .ok (.invokevirtual 149, 3) := by decide +kernel
theorem d_m_makeCluster_5 : decode M_m_makeCluster.2.1 5 = .ok (.aload_n 0, 1) := by decide +kernel
theorem d_m_makeCluster_6 : decode M_m_makeCluster.2.1 6 = .ok (.getfield 136, 3) := by decide +kernel
theorem d_m_makeCluster_9 : decode M_m_makeCluster.2.1 9 = .ok (.iconst 5, 1) := by decide +kernel
theorem d_m_makeCluster_10 : decode M_m_makeCluster.2.1 10 = .ok (.if_icmp .gt 4, 3) := by decide +kernel
theorem d_m_makeCluster_13 : decode M_m_makeCluster.2.1 13 = .ok (.return_, 1) := by decide +kernel
theorem d_m_makeCluster_14 : decode M_m_makeCluster.2.1 14 = .ok (.aload_n 0, 1) := by decide +kernel
theorem d_m_makeCluster_15 : decode M_m_makeCluster.2.1 15 = .ok (.getfield 13, 3) := by decide +kernel
theorem d_m_makeCluster_18 : decode M_m_makeCluster.2.1 18 = .ok (.bipush 65, 2) := by decide +kernel
theorem d_m_makeCluster_20 : decode M_m_makeCluster.2.1 20 = .ok (.iconst 0, 1) := by decide +kernel
theorem d_m_makeCluster_21 : decode M_m_makeCluster.2.1 21 = .ok (.iastore, 1) := by decide +kernel
theorem d_m_makeCluster_22 : decode M_m_makeCluster.2.1 22 = .ok (.iconst 0, 1) := by decide +kernel
theorem d_m_makeCluster_23 : decode M_m_makeCluster.2.1 23 = .ok (.istore_n 2, 1) := by decide +kernel
theorem d_m_makeCluster_24 : decode M_m_makeCluster.2.1 24 = .ok (.iload_n 2, 1) := by decide +kernel
theorem d_m_makeCluster_25 : decode M_m_makeCluster.2.1 25 = .ok (.aload_n 0, 1) := by decide +kernel
theorem d_m_makeCluster_26 : decode M_m_makeCluster.2.1 26 = .ok (.getfield 136, 3) := by decide +kernel
theorem d_m_makeCluster_29 : decode M_m_makeCluster.2.1 29 = .ok (.if_icmp .ge 51, 3) := by decide +kernel
theorem d_m_makeCluster_32 : decode M_m_makeCluster.2.1 32 = .ok (.iload_n 2, 1) := by decide +kernel
theorem d_m_makeCluster_33 : decode M_m_makeCluster.2.1 33 = .ok (.bipush 20, 2) := by decide +kernel
theorem d_m_makeCluster_35 : decode M_m_makeCluster.2.1 35 = .ok (.if_icmp .ge 45, 3) := by decide +kernel
theorem d_m_makeCluster_38 : decode M_m_makeCluster.2.1 38 = .ok (.aload_n 0, 1) := by decide +kernel
theorem d_m_makeCluster_39 : decode M_m_makeCluster.2.1 39 = .ok (.bipush 65, 2) := by decide +kernel
theorem d_m_makeCluster_41 : decode M_m_makeCluster.2.1 41 = .ok (.bipush 77, 2) := by decide +kernel
theorem d_m_makeCluster_43 : decode M_m_makeCluster.2.1 43 = .ok (.invokevirtual 111, 3) := by decide +kernel
theorem d_m_makeCluster_46 : decode M_m_makeCluster.2.1 46 = .ok (.aload_n 0, 1) := by decide +kernel
theorem d_m_makeCluster_47 : decode M_m_makeCluster.2.1 47 = .ok (.bipush 65, 2) := by decide +kernel
theorem d_m_makeCluster_49 : decode M_m_makeCluster.2.1 49 = .ok (.bipush 32, 2) := by decide +kernel
theorem d_m_makeCluster_51 : decode M_m_makeCluster.2.1 51 = .ok (.invokevirtual 111, 3) := by decide +kernel
theorem d_m_makeCluster_54 : decode M_m_makeCluster.2.1 54 = .ok (.aload_n 0, 1) := by decide +kernel
theorem d_m_makeCluster_55 : decode M_m_makeCluster.2.1 55 = .ok (.bipush 65, 2) := by decide +kernel
theorem d_m_makeCluster_57 : decode M_m_makeCluster.2.1 57 = .ok (.aload_n 0, 1) := by decide +kernel
theorem d_m_makeCluster_58 : decode M_m_makeCluster.2.1 58 = .ok (.getfield 35, 3) := by decide +kernel
theorem d_m_makeCluster_61 : decode M_m_makeCluster.2.1 61 = .ok (.iload_n 2, 1) := by decide +kernel
theorem d_m_makeCluster_62 : decode M_m_makeCluster.2.1 62 = .ok (.iaload, 1) := by decide +kernel
theorem d_m_makeCluster_63 : decode M_m_makeCluster.2.1 63 = .ok (.invokevirtual 124, 3) := by decide +kernel
theorem d_m_makeCluster_66 : decode M_m_makeCluster.2.1 66 = .ok (.aload_n 0, 1) := by decide +kernel
theorem d_m_makeCluster_67 : decode M_m_makeCluster.2.1 67 = .ok (.bipush 65, 2) := by decide +kernel
theorem d_m_makeCluster_69 : decode M_m_makeCluster.2.1 69 = .ok (.bipush 10, 2) := by decide +kernel
theorem d_m_makeCluster_71 : decode M_m_makeCluster.2.1 71 = .ok (.invokevirtual 111, 3) := by decide +kernel
theorem d_m_makeCluster_74 : decode M_m_makeCluster.2.1 74 = .ok (.iinc 2 1, 3) := by decide +kernel
theorem d_m_makeCluster_77 : decode M_m_makeCluster.2.1 77 = .ok (.goto (-53), 3) := by decide +kernel
theorem d_m_makeCluster_80 : decode M_m_makeCluster.2.1 80 = .ok (.aload_n 0, 1) := by decide +kernel
theorem d_m_makeCluster_81 : decode M_m_makeCluster.2.1 81 = .ok (.bipush 7, 2) := by decide +kernel
theorem d_m_makeCluster_83 : decode M_m_makeCluster.2.1 83 = .ok (.bipush 65, 2) := by decide +kernel
theorem d_m_makeCluster_85 : decode M_m_makeCluster.2.1 85 = .ok (.aload_n 0, 1) := by decide +kernel
theorem d_m_makeCluster_86 : decode M_m_makeCluster.2.1 86 = .ok (.getfield 13, 3) := by decide +kernel
theorem d_m_makeCluster_89 : decode M_m_makeCluster.2.1 89 = .ok (.bipush 65, 2) := by decide +kernel
theorem d_m_makeCluster_91 : decode M_m_makeCluster.2.1 91 = .ok (.iaload, 1) := by decide +kernel
theorem d_m_makeCluster_92 : decode M_m_makeCluster.2.1 92 = .ok (.invokevirtual 94, 3) := by decide +kernel
theorem d_m_makeCluster_95 : decode M_m_makeCluster.2.1 95 = .ok (.istore_n 2, 1) := by decide +kernel
theorem d_m_makeCluster_96 : decode M_m_makeCluster.2.1 96 = .ok (.aload_n 0, 1) := by decide +kernel
theorem d_m_makeCluster_97 : decode M_m_makeCluster.2.1 97 = .ok (.bipush 65, 2) := by decide +kernel
theorem d_m_makeCluster_99 : decode M_m_makeCluster.2.1 99 = .ok (.bipush 90, 2) := by decide +kernel
theorem d_m_makeCluster_101 : decode M_m_makeCluster.2.1 101 = .ok (.invokevirtual 111, 3) := by decide +kernel
theorem d_m_makeCluster_104 : decode M_m_makeCluster.2.1 104 = .ok (.aload_n 0, 1) := by decide +kernel
theorem d_m_makeCluster_105 : decode M_m_makeCluster.2.1 105 = .ok (.bipush 65, 2) := by decide +kernel
theorem d_m_makeCluster_107 : decode M_m_makeCluster.2.1 107 = .ok (.bipush 32, 2) := by decide +kernel
theorem d_m_makeCluster_109 : decode M_m_makeCluster.2.1 109 = .ok (.invokevirtual 111, 3) := by decide +kernel
theorem d_m_makeCluster_112 : decode M_m_makeCluster.2.1 112 = .ok (.aload_n 0, 1) := by decide +kernel
theorem d_m_makeCluster_113 : decode M_m_makeCluster.2.1 113 = .ok (.bipush 65, 2) := by decide +kernel
theorem d_m_makeCluster_115 : decode M_m_makeCluster.2.1 115 = .ok (.iload_n 2, 1) := by decide +kernel
theorem d_m_makeCluster_116 : decode M_m_makeCluster.2.1 116 = .ok (.invokevirtual 124, 3) := by decide +kernel
theorem d_m_makeCluster_119 : decode M_m_makeCluster.2.1 119 = .ok (.aload_n 0, 1) := by decide +kernel
theorem d_m_makeCluster_120 : decode M_m_makeCluster.2.1 120 = .ok (.bipush 65, 2) := by decide +kernel
theorem d_m_makeCluster_122 : decode M_m_makeCluster.2.1 122 = .ok (.bipush 10, 2) := by decide +kernel
theorem d_m_makeCluster_124 : decode M_m_makeCluster.2.1 124 = .ok (.invokevirtual 111, 3) := by decide +kernel
theorem d_m_makeCluster_127 : decode M_m_makeCluster.2.1 127 = .ok (.aload_n 0, 1) := by decide +kernel
theorem d_m_makeCluster_128 : decode M_m_makeCluster.2.1 128 = .ok (.bipush 7, 2) := by decide +kernel
theorem d_m_makeCluster_130 : decode M_m_makeCluster.2.1 130 = .ok (.bipush 65, 2) := by decide +kernel
theorem d_m_makeCluster_132 : decode M_m_makeCluster.2.1 132 = .ok (.aload_n 0, 1) := by decide +kernel
theorem d_m_makeCluster_133 : decode M_m_makeCluster.2.1 133 = .ok (.getfield 13, 3) := by decide +kernel
theorem d_m_makeCluster_136 : decode M_m_makeCluster.2.1 136 = .ok (.bipush 65, 2) := by decide +kernel
theorem d_m_makeCluster_138 : decode M_m_makeCluster.2.1 138 = .ok (.iaload, 1) := by decide +kernel
theorem d_m_makeCluster_139 : decode M_m_makeCluster.2.1 139 = .ok (.invokevirtual 94, 3) := by decide +kernel
theorem d_m_makeCluster_142 : decode M_m_makeCluster.2.1 142 = .ok (.istore_n 3, 1) := by decide +kernel
theorem d_m_makeCluster_143 : decode M_m_makeCluster.2.1 143 = .ok (.aload_n 0, 1) := by decide +kernel
theorem d_m_makeCluster_144 : decode M_m_makeCluster.2.1 144 = .ok (.iload_n 1, 1) := by decide +kernel
theorem d_m_makeCluster_145 : decode M_m_makeCluster.2.1 145 = .ok (.bipush 65, 2) := by decide +kernel
theorem d_m_makeCluster_147 : decode M_m_makeCluster.2.1 147 = .ok (.iload_n 3, 1) := by decide +kernel
theorem d_m_makeCluster_148 : decode M_m_makeCluster.2.1 148 = .ok (.invokevirtual 132, 3) := by decide +kernel
theorem d_m_makeCluster_151 : decode M_m_makeCluster.2.1 151 = .ok (.return_, 1) := by decide +kernel
theorem d_m_listLoose_0 : decode M_m_listLoose.2.1 0 = .ok (.aload_n 0, 1) := by decide +kernel
theorem d_m_listLoose_1 : decode M_m_listLoose.2.1 1 = .ok (.iconst 0, 1) := by decide +kernel
theorem d_m_listLoose_2 : decode M_m_listLoose.2.1 2 = .ok (.putfield 136, 3) := by decide +kernel
theorem d_m_listLoose_5 : decode M_m_listLoose.2.1 5 = .ok (.bipush 32, 2) := by decide +kernel
theorem d_m_listLoose_7 : decode M_m_listLoose.2.1 7 = .ok (.iload_n 1, 1) := by decide +kernel
theorem d_m_listLoose_8 : decode M_m_listLoose.2.1 8 = .ok (.imul, 1) := by decide +kernel
theorem d_m_listLoose_9 : decode M_m_listLoose.2.1 9 = .ok (.istore_n 2, 1) := by decide +kernel
theorem d_m_listLoose_10 : decode M_m_listLoose.2.1 10 = .ok (.iload_n 2, 1) := by decide +kernel
theorem d_m_listLoose_11 : decode M_m_listLoose.2.1 11 = .ok (.bipush 32, 2) := by decide +kernel
theorem d_m_listLoose_13 : decode M_m_listLoose.2.1 13 = .ok (.iload_n 1, 1) := by decide +kernel
theorem d_m_listLoose_14 : decode M_m_listLoose.2.1 14 = .ok (.imul, 1) := by decide +kernel
theorem d_m_listLoose_15 : decode M_m_listLoose.2.1 15 = .ok (.aload_n 0, 1) := by decide +kernel
theorem d_m_listLoose_16 : decode M_m_listLoose.2.1 16 = .ok (.getfield 20, 3) := by decide +kernel
theorem d_m_listLoose_19 : decode M_m_listLoose.2.1 19 = .ok (.iload_n 1, 1) := by decide +kernel
theorem d_m_listLoose_20 : decode M_m_listLoose.2.1 20 = .ok (.iaload, 1) := by decide +kernel
theorem d_m_listLoose_21 : decode M_m_listLoose.2.1 21 = .ok (.iadd, 1) := by decide +kernel
theorem d_m_listLoose_22 : decode M_m_listLoose.2.1 22 = .ok (.if_icmp .ge 33, 3) := by decide +kernel
theorem d_m_listLoose_25 : decode M_m_listLoose.2.1 25 = .ok (.aload_n 0, 1) := by decide +kernel
theorem d_m_listLoose_26 : decode M_m_listLoose.2.1 26 = .ok (.iload_n 1, 1) := by decide +kernel
theorem d_m_listLoose_27 : decode M_m_listLoose.2.1 27 = .ok (.aload_n 0, 1) := by decide +kernel
theorem d_m_listLoose_28 : decode M_m_listLoose.2.1 28 = .ok (.getfield 17, 3) := by decide +kernel
theorem d_m_listLoose_31 : decode M_m_listLoose.2.1 31 = .ok (.iload_n 2, 1) := by decide +kernel
theorem d_m_listLoose_32 : decode M_m_listLoose.2.1 32 = .ok (.iaload, 1) := by decide +kernel
theorem d_m_listLoose_33 : decode M_m_listLoose.2.1 33 = .ok (.invokevirtual 139, 3) := by decide +kernel
theorem d_m_listLoose_36 : decode M_m_listLoose.2.1 36 = .ok (.ifCond .ne 13, 3) := by decide +kernel
theorem d_m_listLoose_39 : decode M_m_listLoose.2.1 39 = .ok (.aload_n 0, 1) := by decide +kernel
theorem d_m_listLoose_40 : decode M_m_listLoose.2.1 40 = .ok (.aload_n 0, 1) := by decide +kernel
theorem d_m_listLoose_41 : decode M_m_listLoose.2.1 41 = .ok (.getfield 17, 3) := by decide +kernel
theorem d_m_listLoose_44 : decode M_m_listLoose.2.1 44 = .ok (.iload_n 2, 1) := by decide +kernel
theorem d_m_listLoose_45 : decode M_m_listLoose.2.1 45 = .ok (.iaload, 1) := by decide +kernel
theorem d_m_listLoose_46 : decode M_m_listLoose.2.1 46 = .ok (.invokevirtual 142, 3) := by decide +kernel
theorem d_m_listLoose_49 : decode M_m_listLoose.2.1 49 = .ok (.iinc 2 1, 3) := by decide +kernel
theorem d_m_listLoose_52 : decode M_m_listLoose.2.1 52 = .ok (.goto (-42), 3) := by decide +kernel
theorem d_m_listLoose_55 : decode M_m_listLoose.2.1 55 = .ok (.return_, 1) := by decide +kernel
theorem d_m_clustered_0 : decode M_m_clustered.2.1 0 = .ok (.iconst 0, 1) := by decide +kernel
theorem d_m_clustered_1 : decode M_m_clustered.2.1 1 = .ok (.istore_n 3, 1) := by decide +kernel
theorem d_m_clustered_2 : decode M_m_clustered.2.1 2 = .ok (.bipush 32, 2) := by decide +kernel
theorem d_m_clustered_4 : decode M_m_clustered.2.1 4 = .ok (.iload_n 1, 1) := by decide +kernel
theorem d_m_clustered_5 : decode M_m_clustered.2.1 5 = .ok (.imul, 1) := by decide +kernel
theorem d_m_clustered_6 : decode M_m_clustered.2.1 6 = .ok (.istore 4, 2) := by decide +kernel
theorem d_m_clustered_8 : decode M_m_clustered.2.1 8 = .ok (.iload 4, 2) := by decide +kernel
theorem d_m_clustered_10 : decode M_m_clustered.2.1 10 = .ok (.bipush 32, 2) := by decide +kernel
theorem d_m_clustered_12 : decode M_m_clustered.2.1 12 = .ok (.iload_n 1, 1) := by decide +kernel
theorem d_m_clustered_13 : decode M_m_clustered.2.1 13 = .ok (.imul, 1) := by decide +kernel
theorem d_m_clustered_14 : decode M_m_clustered.2.1 14 = .ok (.aload_n 0, 1) := by decide +kernel
theorem d_m_clustered_15 : decode M_m_clustered.2.1 15 = .ok (.getfield 20, 3) := by decide +kernel
theorem d_m_clustered_18 : decode M_m_clustered.2.1 18 = .ok (.iload_n 1, 1) := by decide +kernel
theorem d_m_clustered_19 : decode M_m_clustered.2.1 19 = .ok (.iaload, 1) := by decide +kernel
theorem d_m_clustered_20 : decode M_m_clustered.2.1 20 = .ok (.iadd, 1) := by decide +kernel
theorem d_m_clustered_21 : decode M_m_clustered.2.1 21 = .ok (.if_icmp .ge 41, 3) := by decide +kernel
theorem d_m_clustered_24 : decode M_m_clustered.2.1 24 = .ok (.iload_n 3, 1) := by decide +kernel
theorem d_m_clustered_25 : decode M_m_clustered.2.1 25 = .ok (.ifCond .ne 37, 3) := by decide +kernel
theorem d_m_clustered_28 : decode M_m_clustered.2.1 28 = .ok (.aload_n 0, 1) := by decide +kernel
theorem d_m_clustered_29 : decode M_m_clustered.2.1 29 = .ok (.iload 4, 2) := by decide +kernel
theorem d_m_clustered_31 : decode M_m_clustered.2.1 31 = .ok (.invokevirtual 101, 3) := by decide +kernel
theorem d_m_clustered_34 : decode M_m_clustered.2.1 34 = .ok (.iconst 3, 1) := by decide +kernel
theorem d_m_clustered_35 : decode M_m_clustered.2.1 35 = .ok (.if_icmp .ne 19, 3) := by decide +kernel
theorem d_m_clustered_38 : decode M_m_clustered.2.1 38 = .ok (.aload_n 0, 1) := by decide +kernel
theorem d_m_clustered_39 : decode M_m_clustered.2.1 39 = .ok (.iload 4, 2) := by decide +kernel
theorem d_m_clustered_41 : decode M_m_clustered.2.1 41 = .ok (.bipush 77, 2) := by decide +kernel
theorem d_m_clustered_43 : decode M_m_clustered.2.1 43 = .ok (.iload_n 2, 1) := by decide +kernel
theorem d_m_clustered_44 : decode M_m_clustered.2.1 44 = .ok (.invokevirtual 108, 3) := by decide +kernel
theorem d_m_clustered_47 : decode M_m_clustered.2.1 47 = .ok (.ifCond .eq 7, 3) := by decide +kernel
theorem d_m_clustered_50 : decode M_m_clustered.2.1 50 = .ok (.iconst 1, 1) := by decide +kernel
theorem d_m_clustered_51 : decode M_m_clustered.2.1 51 = .ok (.goto 4, 3) := by decide +kernel
theorem d_m_clustered_54 : decode M_m_clustered.2.1 54 = .ok (.iconst 0, 1) := by decide +kernel
theorem d_m_clustered_55 : decode M_m_clustered.2.1 55 = .ok (.istore_n 3, 1) := by decide +kernel
theorem d_m_clustered_56 : decode M_m_clustered.2.1 56 = .ok (.iinc 4 1, 3) := by decide +kernel
theorem d_m_clustered_59 : decode M_m_clustered.2.1 59 = .ok (.goto (-51), 3) := by decide +kernel
theorem d_m_clustered_62 : decode M_m_clustered.2.1 62 = .ok (.iload_n 3, 1) := by decide +kernel
theorem d_m_clustered_63 : decode M_m_clustered.2.1 63 = .ok (.ireturn, 1) := by decide +kernel
theorem d_m_sort_0 : decode M_m_sort.2.1 0 = .ok (.iconst 0, 1) := by decide +kernel
theorem d_m_sort_1 : decode M_m_sort.2.1 1 = .ok (.istore_n 2, 1) := by decide +kernel
theorem d_m_sort_2 : decode M_m_sort.2.1 2 = .ok (.iconst (-1), 1) := by decide +kernel
theorem d_m_sort_3 : decode M_m_sort.2.1 3 = .ok (.istore_n 3, 1) := by decide +kernel
theorem d_m_sort_4 : decode M_m_sort.2.1 4 = .ok (.iconst 0, 1) := by decide +kernel
theorem d_m_sort_5 : decode M_m_sort.2.1 5 = .ok (.istore 4, 2) := by decide +kernel
theorem d_m_sort_7 : decode M_m_sort.2.1 7 = .ok (.iconst 0, 1) := by decide +kernel
theorem d_m_sort_8 : decode M_m_sort.2.1 8 = .ok (.istore 5, 2) := by decide +kernel
theorem d_m_sort_10 : decode M_m_sort.2.1 10 = .ok (.iconst 0, 1) := by decide +kernel
theorem d_m_sort_11 : decode M_m_sort.2.1 11 = .ok (.istore 6, 2) := by decide +kernel
theorem d_m_sort_13 : decode M_m_sort.2.1 13 = .ok (.iconst 0, 1) := by decide +kernel
theorem d_m_sort_14 : decode M_m_sort.2.1 14 = .ok (.istore 7, 2) := by decide +kernel
theorem d_m_sort_16 : decode M_m_sort.2.1 16 = .ok (.iconst 0, 1) := by decide +kernel
theorem d_m_sort_17 : decode M_m_sort.2.1 17 = .ok (.istore 8, 2) := by decide +kernel
theorem d_m_sort_19 : decode M_m_sort.2.1 19 = .ok (.iconst 0, 1) := by decide +kernel
theorem d_m_sort_20 : decode M_m_sort.2.1 20 = .ok (.istore 9, 2) := by decide +kernel
theorem d_m_sort_22 : decode M_m_sort.2.1 22 = .ok (.iconst 0, 1) := by decide +kernel
theorem d_m_sort_23 : decode M_m_sort.2.1 23 = .ok (.istore 10, 2) := by decide +kernel
theorem d_m_sort_25 : decode M_m_sort.2.1 25 = .ok (.iconst 0, 1) := by decide +kernel
theorem d_m_sort_26 : decode M_m_sort.2.1 26 = .ok (.istore 11, 2) := by decide +kernel
theorem d_m_sort_28 : decode M_m_sort.2.1 28 = .ok (.iconst 0, 1) := by decide +kernel
theorem d_m_sort_29 : decode M_m_sort.2.1 29 = .ok (.istore 12, 2) := by decide +kernel
theorem d_m_sort_31 : decode M_m_sort.2.1 31 = .ok (.iload 12, 2) := by decide +kernel
theorem d_m_sort_33 : decode M_m_sort.2.1 33 = .ok (.aload_n 0, 1) := by decide +kernel
theorem d_m_sort_34 : decode M_m_sort.2.1 34 = .ok (.getfield 13, 3) := by decide +kernel
theorem d_m_sort_37 : decode M_m_sort.2.1 37 = .ok (.iload_n 1, 1) := by decide +kernel
theorem d_m_sort_38 : decode M_m_sort.2.1 38 = .ok (.iaload, 1) := by decide +kernel
theorem d_m_sort_39 : decode M_m_sort.2.1 39 = .ok (.if_icmp .ge 332, 3) := by decide +kernel
theorem d_m_sort_42 : decode M_m_sort.2.1 42 = .ok (.aload_n 0, 1) := by decide +kernel
theorem d_m_sort_43 : decode M_m_sort.2.1 43 = .ok (.iload_n 1, 1) := by decide +kernel
theorem d_m_sort_44 : decode M_m_sort.2.1 44 = .ok (.iload 12, 2) := by decide +kernel
theorem d_m_sort_46 : decode M_m_sort.2.1 46 = .ok (.invokevirtual 90, 3) := by decide +kernel
theorem d_m_sort_49 : decode M_m_sort.2.1 49 = .ok (.ifCond .eq 18, 3) := by decide +kernel
theorem d_m_sort_52 : decode M_m_sort.2.1 52 = .ok (.aload_n 0, 1) := by decide +kernel
theorem d_m_sort_53 : decode M_m_sort.2.1 53 = .ok (.getfield 47, 3) := by decide +kernel
theorem d_m_sort_56 : decode M_m_sort.2.1 56 = .ok (.iload_n 2, 1) := by decide +kernel
theorem d_m_sort_57 : decode M_m_sort.2.1 57 = .ok (.if_icmp .lt 10, 3) := by decide +kernel
theorem d_m_sort_60 : decode M_m_sort.2.1 60 = .ok (.aload_n 0, 1) := by decide +kernel
theorem d_m_sort_61 : decode M_m_sort.2.1 61 = .ok (.getfield 47, 3) := by decide +kernel
theorem d_m_sort_64 : decode M_m_sort.2.1 64 = .ok (.ifCond .ne 5, 3) := by decide +kernel
theorem d_m_sort_67 : decode M_m_sort.2.1 67 = .ok (.iconst 0, 1) := by decide +kernel
theorem d_m_sort_68 : decode M_m_sort.2.1 68 = .ok (.ireturn, 1) := by decide +kernel
theorem d_m_sort_69 : decode M_m_sort.2.1 69 = .ok (.aload_n 0, 1) := by decide +kernel
theorem d_m_sort_70 : decode M_m_sort.2.1 70 = .ok (.getfield 47, 3) := by decide +kernel
theorem d_m_sort_73 : decode M_m_sort.2.1 73 = .ok (.bipush 70, 2) := by decide +kernel
theorem d_m_sort_75 : decode M_m_sort.2.1 75 = .ok (.if_icmp .eq 12, 3) := by decide +kernel
theorem d_m_sort_78 : decode M_m_sort.2.1 78 = .ok (.aload_n 0, 1) := by decide +kernel
theorem d_m_sort_79 : decode M_m_sort.2.1 79 = .ok (.getfield 47, 3) := by decide +kernel
theorem d_m_sort_82 : decode M_m_sort.2.1 82 = .ok (.bipush 84, 2) := by decide +kernel
theorem d_m_sort_84 : decode M_m_sort.2.1 84 = .ok (.if_icmp .ne 10, 3) := by decide +kernel
theorem d_m_sort_87 : decode M_m_sort.2.1 87 = .ok (.aload_n 0, 1) := by decide +kernel
theorem d_m_sort_88 : decode M_m_sort.2.1 88 = .ok (.getfield 74, 3) := by decide +kernel
theorem d_m_sort_91 : decode M_m_sort.2.1 91 = .ok (.goto 20, 3) := by decide +kernel
theorem d_m_sort_94 : decode M_m_sort.2.1 94 = .ok (.aload_n 0, 1) := by decide +kernel
theorem d_m_sort_95 : decode M_m_sort.2.1 95 = .ok (.getfield 47, 3) := by decide +kernel
theorem d_m_sort_98 : decode M_m_sort.2.1 98 = .ok (.bipush 77, 2) := by decide +kernel
theorem d_m_sort_100 : decode M_m_sort.2.1 100 = .ok (.if_icmp .ne 10, 3) := by decide +kernel
theorem d_m_sort_103 : decode M_m_sort.2.1 103 = .ok (.aload_n 0, 1) := by decide +kernel
theorem d_m_sort_104 : decode M_m_sort.2.1 104 = .ok (.getfield 58, 3) := by decide +kernel
theorem d_m_sort_107 : decode M_m_sort.2.1 107 = .ok (.goto 4, 3) := by decide +kernel
theorem d_m_sort_110 : decode M_m_sort.2.1 110 = .ok (.iconst 0, 1) := by decide +kernel
theorem d_m_sort_111 : decode M_m_sort.2.1 111 = .ok (.istore 13, 2) := by decide +kernel
theorem d_m_sort_113 : decode M_m_sort.2.1 113 = .ok (.aload_n 0, 1) := by decide +kernel
theorem d_m_sort_114 : decode M_m_sort.2.1 114 = .ok (.getfield 47, 3) := by decide +kernel
theorem d_m_sort_117 : decode M_m_sort.2.1 117 = .ok (.bipush 70, 2) := by decide +kernel
theorem d_m_sort_119 : decode M_m_sort.2.1 119 = .ok (.if_icmp .eq 21, 3) := by decide +kernel
theorem d_m_sort_122 : decode M_m_sort.2.1 122 = .ok (.aload_n 0, 1) := by decide +kernel
theorem d_m_sort_123 : decode M_m_sort.2.1 123 = .ok (.getfield 47, 3) := by decide +kernel
theorem d_m_sort_126 : decode M_m_sort.2.1 126 = .ok (.bipush 84, 2) := by decide +kernel
theorem d_m_sort_128 : decode M_m_sort.2.1 128 = .ok (.if_icmp .eq 12, 3) := by decide +kernel
theorem d_m_sort_131 : decode M_m_sort.2.1 131 = .ok (.aload_n 0, 1) := by decide +kernel
theorem d_m_sort_132 : decode M_m_sort.2.1 132 = .ok (.getfield 47, 3) := by decide +kernel
theorem d_m_sort_135 : decode M_m_sort.2.1 135 = .ok (.bipush 77, 2) := by decide +kernel
theorem d_m_sort_137 : decode M_m_sort.2.1 137 = .ok (.if_icmp .ne 7, 3) := by decide +kernel
theorem d_m_sort_140 : decode M_m_sort.2.1 140 = .ok (.iconst 1, 1) := by decide +kernel
theorem d_m_sort_141 : decode M_m_sort.2.1 141 = .ok (.goto 4, 3) := by decide +kernel
theorem d_m_sort_144 : decode M_m_sort.2.1 144 = .ok (.iconst 0, 1) := by decide +kernel
theorem d_m_sort_145 : decode M_m_sort.2.1 145 = .ok (.istore 14, 2) := by decide +kernel
theorem d_m_sort_147 : decode M_m_sort.2.1 147 = .ok (.aload_n 0, 1) := by decide +kernel
theorem d_m_sort_148 : decode M_m_sort.2.1 148 = .ok (.getfield 47, 3) := by decide +kernel
theorem d_m_sort_151 : decode M_m_sort.2.1 151 = .ok (.iload_n 2, 1) := by decide +kernel
theorem d_m_sort_152 : decode M_m_sort.2.1 152 = .ok (.if_icmp .ne 16, 3) := by decide +kernel
theorem d_m_sort_155 : decode M_m_sort.2.1 155 = .ok (.iload 14, 2) := by decide +kernel
theorem d_m_sort_157 : decode M_m_sort.2.1 157 = .ok (.ifCond .eq 9, 3) := by decide +kernel
theorem d_m_sort_160 : decode M_m_sort.2.1 160 = .ok (.iload 13, 2) := by decide +kernel
theorem d_m_sort_162 : decode M_m_sort.2.1 162 = .ok (.iload_n 3, 1) := by decide +kernel
theorem d_m_sort_163 : decode M_m_sort.2.1 163 = .ok (.if_icmp .gt 5, 3) := by decide +kernel
theorem d_m_sort_166 : decode M_m_sort.2.1 166 = .ok (.iconst 0, 1) := by decide +kernel
theorem d_m_sort_167 : decode M_m_sort.2.1 167 = .ok (.ireturn, 1) := by decide +kernel
theorem d_m_sort_168 : decode M_m_sort.2.1 168 = .ok (.aload_n 0, 1) := by decide +kernel
theorem d_m_sort_169 : decode M_m_sort.2.1 169 = .ok (.getfield 47, 3) := by decide +kernel
theorem d_m_sort_172 : decode M_m_sort.2.1 172 = .ok (.bipush 90, 2) := by decide +kernel
theorem d_m_sort_174 : decode M_m_sort.2.1 174 = .ok (.if_icmp .ne 21, 3) := by decide +kernel
theorem d_m_sort_177 : decode M_m_sort.2.1 177 = .ok (.aload_n 0, 1) := by decide +kernel
theorem d_m_sort_178 : decode M_m_sort.2.1 178 = .ok (.getfield 58, 3) := by decide +kernel
theorem d_m_sort_181 : decode M_m_sort.2.1 181 = .ok (.aload_n 0, 1) := by decide +kernel
theorem d_m_sort_182 : decode M_m_sort.2.1 182 = .ok (.bipush 7, 2) := by decide +kernel
theorem d_m_sort_184 : decode M_m_sort.2.1 184 = .ok (.iload_n 1, 1) := by decide +kernel
theorem d_m_sort_185 : decode M_m_sort.2.1 185 = .ok (.iload 12, 2) := by decide +kernel
theorem d_m_sort_187 : decode M_m_sort.2.1 187 = .ok (.invokevirtual 94, 3) := by decide +kernel
theorem d_m_sort_190 : decode M_m_sort.2.1 190 = .ok (.if_icmp .eq 5, 3) := by decide +kernel
theorem d_m_sort_193 : decode M_m_sort.2.1 193 = .ok (.iconst 0, 1) := by decide +kernel
theorem d_m_sort_194 : decode M_m_sort.2.1 194 = .ok (.ireturn, 1) := by decide +kernel
theorem d_m_sort_195 : decode M_m_sort.2.1 195 = .ok (.aload_n 0, 1) := by decide +kernel
theorem d_m_sort_196 : decode M_m_sort.2.1 196 = .ok (.getfield 47, 3) := by decide +kernel
theorem d_m_sort_199 : decode M_m_sort.2.1 199 = .ok (.istore_n 2, 1) := by decide +kernel
theorem d_m_sort_200 : decode M_m_sort.2.1 200 = .ok (.iload 13, 2) := by decide +kernel
theorem d_m_sort_202 : decode M_m_sort.2.1 202 = .ok (.istore_n 3, 1) := by decide +kernel
theorem d_m_sort_203 : decode M_m_sort.2.1 203 = .ok (.iload 4, 2) := by decide +kernel
theorem d_m_sort_205 : decode M_m_sort.2.1 205 = .ok (.aload_n 0, 1) := by decide +kernel
theorem d_m_sort_206 : decode M_m_sort.2.1 206 = .ok (.getfield 47, 3) := by decide +kernel
theorem d_m_sort_209 : decode M_m_sort.2.1 209 = .ok (.bipush 68, 2) := by decide +kernel
theorem d_m_sort_211 : decode M_m_sort.2.1 211 = .ok (.if_icmp .ne 7, 3) := by decide +kernel
theorem d_m_sort_214 : decode M_m_sort.2.1 214 = .ok (.iconst 1, 1) := by decide +kernel
theorem d_m_sort_215 : decode M_m_sort.2.1 215 = .ok (.goto 4, 3) := by decide +kernel
theorem d_m_sort_218 : decode M_m_sort.2.1 218 = .ok (.iconst 0, 1) := by decide +kernel
theorem d_m_sort_219 : decode M_m_sort.2.1 219 = .ok (.iadd, 1) := by decide +kernel
theorem d_m_sort_220 : decode M_m_sort.2.1 220 = .ok (.istore 4, 2) := by decide +kernel
theorem d_m_sort_222 : decode M_m_sort.2.1 222 = .ok (.iload 5, 2) := by decide +kernel
theorem d_m_sort_224 : decode M_m_sort.2.1 224 = .ok (.aload_n 0, 1) := by decide +kernel
theorem d_m_sort_225 : decode M_m_sort.2.1 225 = .ok (.getfield 47, 3) := by decide +kernel
theorem d_m_sort_228 : decode M_m_sort.2.1 228 = .ok (.bipush 70, 2) := by decide +kernel
theorem d_m_sort_230 : decode M_m_sort.2.1 230 = .ok (.if_icmp .ne 7, 3) := by decide +kernel
theorem d_m_sort_233 : decode M_m_sort.2.1 233 = .ok (.iconst 1, 1) := by decide +kernel
theorem d_m_sort_234 : decode M_m_sort.2.1 234 = .ok (.goto 4, 3) := by decide +kernel
theorem d_m_sort_237 : decode M_m_sort.2.1 237 = .ok (.iconst 0, 1) := by decide +kernel
theorem d_m_sort_238 : decode M_m_sort.2.1 238 = .ok (.iadd, 1) := by decide +kernel
theorem d_m_sort_239 : decode M_m_sort.2.1 239 = .ok (.istore 5, 2) := by decide +kernel
theorem d_m_sort_241 : decode M_m_sort.2.1 241 = .ok (.iload 6, 2) := by decide +kernel
theorem d_m_sort_243 : decode M_m_sort.2.1 243 = .ok (.aload_n 0, 1) := by decide +kernel
theorem d_m_sort_244 : decode M_m_sort.2.1 244 = .ok (.getfield 47, 3) := by decide +kernel
theorem d_m_sort_247 : decode M_m_sort.2.1 247 = .ok (.bipush 77, 2) := by decide +kernel
theorem d_m_sort_249 : decode M_m_sort.2.1 249 = .ok (.if_icmp .ne 7, 3) := by decide +kernel
theorem d_m_sort_252 : decode M_m_sort.2.1 252 = .ok (.iconst 1, 1) := by decide +kernel
theorem d_m_sort_253 : decode M_m_sort.2.1 253 = .ok (.goto 4, 3) := by decide +kernel
theorem d_m_sort_256 : decode M_m_sort.2.1 256 = .ok (.iconst 0, 1) := by decide +kernel
theorem d_m_sort_257 : decode M_m_sort.2.1 257 = .ok (.iadd, 1) := by decide +kernel
theorem d_m_sort_258 : decode M_m_sort.2.1 258 = .ok (.istore 6, 2) := by decide +kernel
theorem d_m_sort_260 : decode M_m_sort.2.1 260 = .ok (.iload 7, 2) := by decide +kernel
theorem d_m_sort_262 : decode M_m_sort.2.1 262 = .ok (.aload_n 0, 1) := by decide +kernel
theorem d_m_sort_263 : decode M_m_sort.2.1 263 = .ok (.getfield 47, 3) := by decide +kernel
theorem d_m_sort_266 : decode M_m_sort.2.1 266 = .ok (.bipush 80, 2) := by decide +kernel
theorem d_m_sort_268 : decode M_m_sort.2.1 268 = .ok (.if_icmp .ne 7, 3) := by decide +kernel
theorem d_m_sort_271 : decode M_m_sort.2.1 271 = .ok (.iconst 1, 1) := by decide +kernel
theorem d_m_sort_272 : decode M_m_sort.2.1 272 = .ok (.goto 4, 3) := by decide +kernel
theorem d_m_sort_275 : decode M_m_sort.2.1 275 = .ok (.iconst 0, 1) := by decide +kernel
theorem d_m_sort_276 : decode M_m_sort.2.1 276 = .ok (.iadd, 1) := by decide +kernel
theorem d_m_sort_277 : decode M_m_sort.2.1 277 = .ok (.istore 7, 2) := by decide +kernel
theorem d_m_sort_279 : decode M_m_sort.2.1 279 = .ok (.iload 8, 2) := by decide +kernel
theorem d_m_sort_281 : decode M_m_sort.2.1 281 = .ok (.aload_n 0, 1) := by decide +kernel
theorem d_m_sort_282 : decode M_m_sort.2.1 282 = .ok (.getfield 47, 3) := by decide +kernel
theorem d_m_sort_285 : decode M_m_sort.2.1 285 = .ok (.bipush 82, 2) := by decide +kernel
theorem d_m_sort_287 : decode M_m_sort.2.1 287 = .ok (.if_icmp .ne 7, 3) := by decide +kernel
theorem d_m_sort_290 : decode M_m_sort.2.1 290 = .ok (.iconst 1, 1) := by decide +kernel
theorem d_m_sort_291 : decode M_m_sort.2.1 291 = .ok (.goto 4, 3) := by decide +kernel
theorem d_m_sort_294 : decode M_m_sort.2.1 294 = .ok (.iconst 0, 1) := by decide +kernel
theorem d_m_sort_295 : decode M_m_sort.2.1 295 = .ok (.iadd, 1) := by decide +kernel
theorem d_m_sort_296 : decode M_m_sort.2.1 296 = .ok (.istore 8, 2) := by decide +kernel
theorem d_m_sort_298 : decode M_m_sort.2.1 298 = .ok (.iload 10, 2) := by decide +kernel
theorem d_m_sort_300 : decode M_m_sort.2.1 300 = .ok (.aload_n 0, 1) := by decide +kernel
theorem d_m_sort_301 : decode M_m_sort.2.1 301 = .ok (.getfield 47, 3) := by decide +kernel
theorem d_m_sort_304 : decode M_m_sort.2.1 304 = .ok (.bipush 84, 2) := by decide +kernel
theorem d_m_sort_306 : decode M_m_sort.2.1 306 = .ok (.if_icmp .ne 7, 3) := by decide +kernel
theorem d_m_sort_309 : decode M_m_sort.2.1 309 = .ok (.iconst 1, 1) := by decide +kernel
theorem d_m_sort_310 : decode M_m_sort.2.1 310 = .ok (.goto 4, 3) := by decide +kernel
theorem d_m_sort_313 : decode M_m_sort.2.1 313 = .ok (.iconst 0, 1) := by decide +kernel
theorem d_m_sort_314 : decode M_m_sort.2.1 314 = .ok (.iadd, 1) := by decide +kernel
theorem d_m_sort_315 : decode M_m_sort.2.1 315 = .ok (.istore 10, 2) := by decide +kernel
theorem d_m_sort_317 : decode M_m_sort.2.1 317 = .ok (.iload 9, 2) := by decide +kernel
theorem d_m_sort_319 : decode M_m_sort.2.1 319 = .ok (.aload_n 0, 1) := by decide +kernel
theorem d_m_sort_320 : decode M_m_sort.2.1 320 = .ok (.getfield 47, 3) := by decide +kernel
theorem d_m_sort_323 : decode M_m_sort.2.1 323 = .ok (.bipush 84, 2) := by decide +kernel
theorem d_m_sort_325 : decode M_m_sort.2.1 325 = .ok (.if_icmp .ne 14, 3) := by decide +kernel
theorem d_m_sort_328 : decode M_m_sort.2.1 328 = .ok (.aload_n 0, 1) := by decide +kernel
theorem d_m_sort_329 : decode M_m_sort.2.1 329 = .ok (.getfield 58, 3) := by decide +kernel
theorem d_m_sort_332 : decode M_m_sort.2.1 332 = .ok (.ifCond .ge 7, 3) := by decide +kernel
theorem d_m_sort_335 : decode M_m_sort.2.1 335 = .ok (.iconst 1, 1) := by decide +kernel
theorem d_m_sort_336 : decode M_m_sort.2.1 336 = .ok (.goto 4, 3) := by decide +kernel
theorem d_m_sort_339 : decode M_m_sort.2.1 339 = .ok (.iconst 0, 1) := by decide +kernel
theorem d_m_sort_340 : decode M_m_sort.2.1 340 = .ok (.iadd, 1) := by decide +kernel
theorem d_m_sort_341 : decode M_m_sort.2.1 341 = .ok (.istore 9, 2) := by decide +kernel
theorem d_m_sort_343 : decode M_m_sort.2.1 343 = .ok (.iload 11, 2) := by decide +kernel
theorem d_m_sort_345 : decode M_m_sort.2.1 345 = .ok (.aload_n 0, 1) := by decide +kernel
theorem d_m_sort_346 : decode M_m_sort.2.1 346 = .ok (.getfield 47, 3) := by decide +kernel
theorem d_m_sort_349 : decode M_m_sort.2.1 349 = .ok (.bipush 90, 2) := by decide +kernel
theorem d_m_sort_351 : decode M_m_sort.2.1 351 = .ok (.if_icmp .ne 7, 3) := by decide +kernel
theorem d_m_sort_354 : decode M_m_sort.2.1 354 = .ok (.iconst 1, 1) := by decide +kernel
theorem d_m_sort_355 : decode M_m_sort.2.1 355 = .ok (.goto 4, 3) := by decide +kernel
theorem d_m_sort_358 : decode M_m_sort.2.1 358 = .ok (.iconst 0, 1) := by decide +kernel
theorem d_m_sort_359 : decode M_m_sort.2.1 359 = .ok (.iadd, 1) := by decide +kernel
theorem d_m_sort_360 : decode M_m_sort.2.1 360 = .ok (.istore 11, 2) := by decide +kernel
theorem d_m_sort_362 : decode M_m_sort.2.1 362 = .ok (.aload_n 0, 1) := by decide +kernel
theorem d_m_sort_363 : decode M_m_sort.2.1 363 = .ok (.getfield 51, 3) := by decide +kernel
theorem d_m_sort_366 : decode M_m_sort.2.1 366 = .ok (.istore 12, 2) := by decide +kernel
theorem d_m_sort_368 : decode M_m_sort.2.1 368 = .ok (.goto (-337), 3) := by decide +kernel
theorem d_m_sort_371 : decode M_m_sort.2.1 371 = .ok (.iload 11, 2) := by decide +kernel
theorem d_m_sort_373 : decode M_m_sort.2.1 373 = .ok (.ifCond .ne 5, 3) := by decide +kernel
theorem d_m_sort_376 : decode M_m_sort.2.1 376 = .ok (.iconst 0, 1) := by decide +kernel
theorem d_m_sort_377 : decode M_m_sort.2.1 377 = .ok (.ireturn, 1) := by decide +kernel
theorem d_m_sort_378 : decode M_m_sort.2.1 378 = .ok (.iload 4, 2) := by decide +kernel
theorem d_m_sort_380 : decode M_m_sort.2.1 380 = .ok (.iconst 1, 1) := by decide +kernel
theorem d_m_sort_381 : decode M_m_sort.2.1 381 = .ok (.if_icmp .ne 23, 3) := by decide +kernel
theorem d_m_sort_384 : decode M_m_sort.2.1 384 = .ok (.iload 8, 2) := by decide +kernel
theorem d_m_sort_386 : decode M_m_sort.2.1 386 = .ok (.iconst 1, 1) := by decide +kernel
theorem d_m_sort_387 : decode M_m_sort.2.1 387 = .ok (.if_icmp .ne 17, 3) := by decide +kernel
theorem d_m_sort_390 : decode M_m_sort.2.1 390 = .ok (.iload 6, 2) := by decide +kernel
theorem d_m_sort_392 : decode M_m_sort.2.1 392 = .ok (.ifCond .ne 12, 3) := by decide +kernel
theorem d_m_sort_395 : decode M_m_sort.2.1 395 = .ok (.iload 9, 2) := by decide +kernel
theorem d_m_sort_397 : decode M_m_sort.2.1 397 = .ok (.iload 10, 2) := by decide +kernel
theorem d_m_sort_399 : decode M_m_sort.2.1 399 = .ok (.if_icmp .ne 5, 3) := by decide +kernel
theorem d_m_sort_402 : decode M_m_sort.2.1 402 = .ok (.iconst 1, 1) := by decide +kernel
theorem d_m_sort_403 : decode M_m_sort.2.1 403 = .ok (.ireturn, 1) := by decide +kernel
theorem d_m_sort_404 : decode M_m_sort.2.1 404 = .ok (.iload 4, 2) := by decide +kernel
theorem d_m_sort_406 : decode M_m_sort.2.1 406 = .ok (.iconst 1, 1) := by decide +kernel
theorem d_m_sort_407 : decode M_m_sort.2.1 407 = .ok (.if_icmp .ne 29, 3) := by decide +kernel
theorem d_m_sort_410 : decode M_m_sort.2.1 410 = .ok (.iload 10, 2) := by decide +kernel
theorem d_m_sort_412 : decode M_m_sort.2.1 412 = .ok (.ifCond .le 24, 3) := by decide +kernel
theorem d_m_sort_415 : decode M_m_sort.2.1 415 = .ok (.iload 9, 2) := by decide +kernel
theorem d_m_sort_417 : decode M_m_sort.2.1 417 = .ok (.ifCond .ne 19, 3) := by decide +kernel
theorem d_m_sort_420 : decode M_m_sort.2.1 420 = .ok (.iload 5, 2) := by decide +kernel
theorem d_m_sort_422 : decode M_m_sort.2.1 422 = .ok (.iload 6, 2) := by decide +kernel
theorem d_m_sort_424 : decode M_m_sort.2.1 424 = .ok (.iadd, 1) := by decide +kernel
theorem d_m_sort_425 : decode M_m_sort.2.1 425 = .ok (.iload 7, 2) := by decide +kernel
theorem d_m_sort_427 : decode M_m_sort.2.1 427 = .ok (.iadd, 1) := by decide +kernel
theorem d_m_sort_428 : decode M_m_sort.2.1 428 = .ok (.iload 8, 2) := by decide +kernel
theorem d_m_sort_430 : decode M_m_sort.2.1 430 = .ok (.iadd, 1) := by decide +kernel
theorem d_m_sort_431 : decode M_m_sort.2.1 431 = .ok (.ifCond .ne 5, 3) := by decide +kernel
theorem d_m_sort_434 : decode M_m_sort.2.1 434 = .ok (.iconst 2, 1) := by decide +kernel
theorem d_m_sort_435 : decode M_m_sort.2.1 435 = .ok (.ireturn, 1) := by decide +kernel
theorem d_m_sort_436 : decode M_m_sort.2.1 436 = .ok (.iload 6, 2) := by decide +kernel
theorem d_m_sort_438 : decode M_m_sort.2.1 438 = .ok (.ifCond .le 24, 3) := by decide +kernel
theorem d_m_sort_441 : decode M_m_sort.2.1 441 = .ok (.iload 4, 2) := by decide +kernel
theorem d_m_sort_443 : decode M_m_sort.2.1 443 = .ok (.iload 5, 2) := by decide +kernel
theorem d_m_sort_445 : decode M_m_sort.2.1 445 = .ok (.iadd, 1) := by decide +kernel
theorem d_m_sort_446 : decode M_m_sort.2.1 446 = .ok (.iload 7, 2) := by decide +kernel
theorem d_m_sort_448 : decode M_m_sort.2.1 448 = .ok (.iadd, 1) := by decide +kernel
theorem d_m_sort_449 : decode M_m_sort.2.1 449 = .ok (.iload 8, 2) := by decide +kernel
theorem d_m_sort_451 : decode M_m_sort.2.1 451 = .ok (.iadd, 1) := by decide +kernel
theorem d_m_sort_452 : decode M_m_sort.2.1 452 = .ok (.iload 10, 2) := by decide +kernel
theorem d_m_sort_454 : decode M_m_sort.2.1 454 = .ok (.iadd, 1) := by decide +kernel
theorem d_m_sort_455 : decode M_m_sort.2.1 455 = .ok (.ifCond .ne 7, 3) := by decide +kernel
theorem d_m_sort_458 : decode M_m_sort.2.1 458 = .ok (.iconst 3, 1) := by decide +kernel
theorem d_m_sort_459 : decode M_m_sort.2.1 459 = .ok (.goto 4, 3) := by decide +kernel
theorem d_m_sort_462 : decode M_m_sort.2.1 462 = .ok (.iconst 0, 1) := by decide +kernel
theorem d_m_sort_463 : decode M_m_sort.2.1 463 = .ok (.ireturn, 1) := by decide +kernel
end
section
/-! Decode rows. Own work. -/
theorem d_m_has_0 : decode M_m_has.2.1 0 = .ok (.iconst 0, 1) := by decide +kernel
theorem d_m_has_1 : decode M_m_has.2.1 1 = .ok (.istore 4, 2) := by decide +kernel
theorem d_m_has_3 : decode M_m_has.2.1 3 = .ok (.iconst 0, 1) := by decide +kernel
theorem d_m_has_4 : decode M_m_has.2.1 4 = .ok (.istore 5, 2) := by decide +kernel
theorem d_m_has_6 : decode M_m_has.2.1 6 = .ok (.iload 5, 2) := by decide +kernel
theorem d_m_has_8 : decode M_m_has.2.1 8 = .ok (.aload_n 0, 1) := by decide +kernel
theorem d_m_has_9 : decode M_m_has.2.1 9 = .ok (.getfield 13, 3) := by decide +kernel
theorem d_m_has_12 : decode M_m_has.2.1 12 = .ok (.iload_n 1, 1) := by decide +kernel
theorem d_m_has_13 : decode M_m_has.2.1 13 = .ok (.iaload, 1) := by decide +kernel
theorem d_m_has_14 : decode M_m_has.2.1 14 = .ok (.if_icmp .ge 58, 3) := by decide +kernel
theorem d_m_has_17 : decode M_m_has.2.1 17 = .ok (.iload 4, 2) := by decide +kernel
theorem d_m_has_19 : decode M_m_has.2.1 19 = .ok (.ifCond .ne 53, 3) := by decide +kernel
theorem d_m_has_22 : decode M_m_has.2.1 22 = .ok (.aload_n 0, 1) := by decide +kernel
theorem d_m_has_23 : decode M_m_has.2.1 23 = .ok (.iload_n 1, 1) := by decide +kernel
theorem d_m_has_24 : decode M_m_has.2.1 24 = .ok (.iload 5, 2) := by decide +kernel
theorem d_m_has_26 : decode M_m_has.2.1 26 = .ok (.invokevirtual 90, 3) := by decide +kernel
theorem d_m_has_29 : decode M_m_has.2.1 29 = .ok (.ifCond .eq 43, 3) := by decide +kernel
theorem d_m_has_32 : decode M_m_has.2.1 32 = .ok (.aload_n 0, 1) := by decide +kernel
theorem d_m_has_33 : decode M_m_has.2.1 33 = .ok (.getfield 47, 3) := by decide +kernel
theorem d_m_has_36 : decode M_m_has.2.1 36 = .ok (.iload_n 2, 1) := by decide +kernel
theorem d_m_has_37 : decode M_m_has.2.1 37 = .ok (.if_icmp .ne 23, 3) := by decide +kernel
theorem d_m_has_40 : decode M_m_has.2.1 40 = .ok (.aload_n 0, 1) := by decide +kernel
theorem d_m_has_41 : decode M_m_has.2.1 41 = .ok (.getfield 58, 3) := by decide +kernel
theorem d_m_has_44 : decode M_m_has.2.1 44 = .ok (.iload_n 3, 1) := by decide +kernel
theorem d_m_has_45 : decode M_m_has.2.1 45 = .ok (.if_icmp .eq 11, 3) := by decide +kernel
theorem d_m_has_48 : decode M_m_has.2.1 48 = .ok (.aload_n 0, 1) := by decide +kernel
theorem d_m_has_49 : decode M_m_has.2.1 49 = .ok (.getfield 61, 3) := by decide +kernel
theorem d_m_has_52 : decode M_m_has.2.1 52 = .ok (.iload_n 3, 1) := by decide +kernel
theorem d_m_has_53 : decode M_m_has.2.1 53 = .ok (.if_icmp .ne 7, 3) := by decide +kernel
theorem d_m_has_56 : decode M_m_has.2.1 56 = .ok (.iconst 1, 1) := by decide +kernel
theorem d_m_has_57 : decode M_m_has.2.1 57 = .ok (.goto 4, 3) := by decide +kernel
theorem d_m_has_60 : decode M_m_has.2.1 60 = .ok (.iconst 0, 1) := by decide +kernel
theorem d_m_has_61 : decode M_m_has.2.1 61 = .ok (.istore 4, 2) := by decide +kernel
theorem d_m_has_63 : decode M_m_has.2.1 63 = .ok (.aload_n 0, 1) := by decide +kernel
theorem d_m_has_64 : decode M_m_has.2.1 64 = .ok (.getfield 51, 3) := by decide +kernel
theorem d_m_has_67 : decode M_m_has.2.1 67 = .ok (.istore 5, 2) := by decide +kernel
theorem d_m_has_69 : decode M_m_has.2.1 69 = .ok (.goto (-63), 3) := by decide +kernel
theorem d_m_has_72 : decode M_m_has.2.1 72 = .ok (.iload 4, 2) := by decide +kernel
theorem d_m_has_74 : decode M_m_has.2.1 74 = .ok (.ireturn, 1) := by decide +kernel
theorem d_m_enlist_0 : decode M_m_enlist.2.1 0 = .ok (.aload_n 0, 1) := by decide +kernel
theorem d_m_enlist_1 : decode M_m_enlist.2.1 1 = .ok (.getfield 136, 3) := by decide +kernel
theorem d_m_enlist_4 : decode M_m_enlist.2.1 4 = .ok (.istore_n 2, 1) := by decide +kernel
theorem d_m_enlist_5 : decode M_m_enlist.2.1 5 = .ok (.iload_n 2, 1) := by decide +kernel
theorem d_m_enlist_6 : decode M_m_enlist.2.1 6 = .ok (.ifCond .le 21, 3) := by decide +kernel
theorem d_m_enlist_9 : decode M_m_enlist.2.1 9 = .ok (.aload_n 0, 1) := by decide +kernel
theorem d_m_enlist_10 : decode M_m_enlist.2.1 10 = .ok (.getfield 35, 3) := by decide +kernel
theorem d_m_enlist_13 : decode M_m_enlist.2.1 13 = .ok (.iload_n 2, 1) := by decide +kernel
theorem d_m_enlist_14 : decode M_m_enlist.2.1 14 = .ok (.iconst 1, 1) := by decide +kernel
theorem d_m_enlist_15 : decode M_m_enlist.2.1 15 = .ok (.isub, 1) := by decide +kernel
theorem d_m_enlist_16 : decode M_m_enlist.2.1 16 = .ok (.iaload, 1) := by decide +kernel
theorem d_m_enlist_17 : decode M_m_enlist.2.1 17 = .ok (.iload_n 1, 1) := by decide +kernel
theorem d_m_enlist_18 : decode M_m_enlist.2.1 18 = .ok (.if_icmp .le 9, 3) := by decide +kernel
theorem d_m_enlist_21 : decode M_m_enlist.2.1 21 = .ok (.iinc 2 (-1), 3) := by decide +kernel
theorem d_m_enlist_24 : decode M_m_enlist.2.1 24 = .ok (.goto (-19), 3) := by decide +kernel
theorem d_m_enlist_27 : decode M_m_enlist.2.1 27 = .ok (.iload_n 2, 1) := by decide +kernel
theorem d_m_enlist_28 : decode M_m_enlist.2.1 28 = .ok (.ifCond .le 16, 3) := by decide +kernel
theorem d_m_enlist_31 : decode M_m_enlist.2.1 31 = .ok (.aload_n 0, 1) := by decide +kernel
theorem d_m_enlist_32 : decode M_m_enlist.2.1 32 = .ok (.getfield 35, 3) := by decide +kernel
theorem d_m_enlist_35 : decode M_m_enlist.2.1 35 = .ok (.iload_n 2, 1) := by decide +kernel
theorem d_m_enlist_36 : decode M_m_enlist.2.1 36 = .ok (.iconst 1, 1) := by decide +kernel
theorem d_m_enlist_37 : decode M_m_enlist.2.1 37 = .ok (.isub, 1) := by decide +kernel
theorem d_m_enlist_38 : decode M_m_enlist.2.1 38 = .ok (.iaload, 1) := by decide +kernel
theorem d_m_enlist_39 : decode M_m_enlist.2.1 39 = .ok (.iload_n 1, 1) := by decide +kernel
theorem d_m_enlist_40 : decode M_m_enlist.2.1 40 = .ok (.if_icmp .ne 4, 3) := by decide +kernel
theorem d_m_enlist_43 : decode M_m_enlist.2.1 43 = .ok (.return_, 1) := by decide +kernel
theorem d_m_enlist_44 : decode M_m_enlist.2.1 44 = .ok (.aload_n 0, 1) := by decide +kernel
theorem d_m_enlist_45 : decode M_m_enlist.2.1 45 = .ok (.getfield 136, 3) := by decide +kernel
theorem d_m_enlist_48 : decode M_m_enlist.2.1 48 = .ok (.istore_n 3, 1) := by decide +kernel
theorem d_m_enlist_49 : decode M_m_enlist.2.1 49 = .ok (.iload_n 3, 1) := by decide +kernel
theorem d_m_enlist_50 : decode M_m_enlist.2.1 50 = .ok (.iload_n 2, 1) := by decide +kernel
theorem d_m_enlist_51 : decode M_m_enlist.2.1 51 = .ok (.if_icmp .le 23, 3) := by decide +kernel
theorem d_m_enlist_54 : decode M_m_enlist.2.1 54 = .ok (.aload_n 0, 1) := by decide +kernel
theorem d_m_enlist_55 : decode M_m_enlist.2.1 55 = .ok (.getfield 35, 3) := by decide +kernel
theorem d_m_enlist_58 : decode M_m_enlist.2.1 58 = .ok (.iload_n 3, 1) := by decide +kernel
theorem d_m_enlist_59 : decode M_m_enlist.2.1 59 = .ok (.aload_n 0, 1) := by decide +kernel
theorem d_m_enlist_60 : decode M_m_enlist.2.1 60 = .ok (.getfield 35, 3) := by decide +kernel
theorem d_m_enlist_63 : decode M_m_enlist.2.1 63 = .ok (.iload_n 3, 1) := by decide +kernel
theorem d_m_enlist_64 : decode M_m_enlist.2.1 64 = .ok (.iconst 1, 1) := by decide +kernel
theorem d_m_enlist_65 : decode M_m_enlist.2.1 65 = .ok (.isub, 1) := by decide +kernel
theorem d_m_enlist_66 : decode M_m_enlist.2.1 66 = .ok (.iaload, 1) := by decide +kernel
theorem d_m_enlist_67 : decode M_m_enlist.2.1 67 = .ok (.iastore, 1) := by decide +kernel
theorem d_m_enlist_68 : decode M_m_enlist.2.1 68 = .ok (.iinc 3 (-1), 3) := by decide +kernel
theorem d_m_enlist_71 : decode M_m_enlist.2.1 71 = .ok (.goto (-22), 3) := by decide +kernel
theorem d_m_enlist_74 : decode M_m_enlist.2.1 74 = .ok (.aload_n 0, 1) := by decide +kernel
theorem d_m_enlist_75 : decode M_m_enlist.2.1 75 = .ok (.getfield 35, 3) := by decide +kernel
theorem d_m_enlist_78 : decode M_m_enlist.2.1 78 = .ok (.iload_n 2, 1) := by decide +kernel
theorem d_m_enlist_79 : decode M_m_enlist.2.1 79 = .ok (.iload_n 1, 1) := by decide +kernel
theorem d_m_enlist_80 : decode M_m_enlist.2.1 80 = .ok (.iastore, 1) := by decide +kernel
theorem d_m_enlist_81 : decode M_m_enlist.2.1 81 = .ok (.aload_n 0, 1) := by decide +kernel
theorem d_m_enlist_82 : decode M_m_enlist.2.1 82 = .ok (.dup, 1) := by decide +kernel
theorem d_m_enlist_83 : decode M_m_enlist.2.1 83 = .ok (.getfield 136, 3) := by decide +kernel
theorem d_m_enlist_86 : decode M_m_enlist.2.1 86 = .ok (.iconst 1, 1) := by decide +kernel
theorem d_m_enlist_87 : decode M_m_enlist.2.1 87 = .ok (.iadd, 1) := by decide +kernel
theorem d_m_enlist_88 : decode M_m_enlist.2.1 88 = .ok (.putfield 136, 3) := by decide +kernel
theorem d_m_enlist_91 : decode M_m_enlist.2.1 91 = .ok (.return_, 1) := by decide +kernel
theorem d_m_message_0 : decode M_m_message.2.1 0 = .ok (.iconst 1, 1) := by decide +kernel
theorem d_m_message_1 : decode M_m_message.2.1 1 = .ok (.iload_n 1, 1) := by decide +kernel
theorem d_m_message_2 : decode M_m_message.2.1 2 = .ok (.isub, 1) := by decide +kernel
theorem d_m_message_3 : decode M_m_message.2.1 3 = .ok (.istore_n 3, 1) := by decide +kernel
theorem d_m_message_4 : decode M_m_message.2.1 4 = .ok (.iload_n 2, 1) := by decide +kernel
theorem d_m_message_5 : decode M_m_message.2.1 5 = .ok (.istore 4, 2) := by decide +kernel
theorem d_m_message_7 : decode M_m_message.2.1 7 = .ok (.iconst 0, 1) := by decide +kernel
theorem d_m_message_8 : decode M_m_message.2.1 8 = .ok (.istore 5, 2) := by decide +kernel
theorem d_m_message_10 : decode M_m_message.2.1 10 = .ok (.iconst 0, 1) := by decide +kernel
theorem d_m_message_11 : decode M_m_message.2.1 11 = .ok (.istore 6, 2) := by decide +kernel
theorem d_m_message_13 : decode M_m_message.2.1 13 = .ok (.iload 6, 2) := by decide +kernel
theorem d_m_message_15 : decode M_m_message.2.1 15 = .ok (.aload_n 0, 1) := by decide +kernel
theorem d_m_message_16 : decode M_m_message.2.1 16 = .ok (.getfield 32, 3) := by decide +kernel
theorem d_m_message_19 : decode M_m_message.2.1 19 = .ok (.iload_n 3, 1) := by decide +kernel
theorem d_m_message_20 : decode M_m_message.2.1 20 = .ok (.iaload, 1) := by decide +kernel
theorem d_m_message_21 : decode M_m_message.2.1 21 = .ok (.if_icmp .ge 74, 3) := by decide +kernel
theorem d_m_message_24 : decode M_m_message.2.1 24 = .ok (.aload_n 0, 1) := by decide +kernel
theorem d_m_message_25 : decode M_m_message.2.1 25 = .ok (.getfield 29, 3) := by decide +kernel
theorem d_m_message_28 : decode M_m_message.2.1 28 = .ok (.sipush 900, 3) := by decide +kernel
theorem d_m_message_31 : decode M_m_message.2.1 31 = .ok (.iload_n 3, 1) := by decide +kernel
theorem d_m_message_32 : decode M_m_message.2.1 32 = .ok (.imul, 1) := by decide +kernel
theorem d_m_message_33 : decode M_m_message.2.1 33 = .ok (.iload 6, 2) := by decide +kernel
theorem d_m_message_35 : decode M_m_message.2.1 35 = .ok (.iadd, 1) := by decide +kernel
theorem d_m_message_36 : decode M_m_message.2.1 36 = .ok (.iaload, 1) := by decide +kernel
theorem d_m_message_37 : decode M_m_message.2.1 37 = .ok (.istore 7, 2) := by decide +kernel
theorem d_m_message_39 : decode M_m_message.2.1 39 = .ok (.aload_n 0, 1) := by decide +kernel
theorem d_m_message_40 : decode M_m_message.2.1 40 = .ok (.iload_n 1, 1) := by decide +kernel
theorem d_m_message_41 : decode M_m_message.2.1 41 = .ok (.iload 7, 2) := by decide +kernel
theorem d_m_message_43 : decode M_m_message.2.1 43 = .ok (.invokevirtual 98, 3) := by decide +kernel
theorem d_m_message_46 : decode M_m_message.2.1 46 = .ok (.istore 8, 2) := by decide +kernel
theorem d_m_message_48 : decode M_m_message.2.1 48 = .ok (.iload 8, 2) := by decide +kernel
theorem d_m_message_50 : decode M_m_message.2.1 50 = .ok (.ifCond .lt 39, 3) := by decide +kernel
theorem d_m_message_53 : decode M_m_message.2.1 53 = .ok (.aload_n 0, 1) := by decide +kernel
theorem d_m_message_54 : decode M_m_message.2.1 54 = .ok (.getfield 13, 3) := by decide +kernel
theorem d_m_message_57 : decode M_m_message.2.1 57 = .ok (.iload 8, 2) := by decide +kernel
theorem d_m_message_59 : decode M_m_message.2.1 59 = .ok (.iaload, 1) := by decide +kernel
theorem d_m_message_60 : decode M_m_message.2.1 60 = .ok (.iload 4, 2) := by decide +kernel
theorem d_m_message_62 : decode M_m_message.2.1 62 = .ok (.if_icmp .gt 27, 3) := by decide +kernel
theorem d_m_message_65 : decode M_m_message.2.1 65 = .ok (.iload 4, 2) := by decide +kernel
theorem d_m_message_67 : decode M_m_message.2.1 67 = .ok (.aload_n 0, 1) := by decide +kernel
theorem d_m_message_68 : decode M_m_message.2.1 68 = .ok (.getfield 13, 3) := by decide +kernel
theorem d_m_message_71 : decode M_m_message.2.1 71 = .ok (.iload 8, 2) := by decide +kernel
theorem d_m_message_73 : decode M_m_message.2.1 73 = .ok (.iaload, 1) := by decide +kernel
theorem d_m_message_74 : decode M_m_message.2.1 74 = .ok (.isub, 1) := by decide +kernel
theorem d_m_message_75 : decode M_m_message.2.1 75 = .ok (.istore 4, 2) := by decide +kernel
theorem d_m_message_77 : decode M_m_message.2.1 77 = .ok (.iinc 5 1, 3) := by decide +kernel
theorem d_m_message_80 : decode M_m_message.2.1 80 = .ok (.aload_n 0, 1) := by decide +kernel
theorem d_m_message_81 : decode M_m_message.2.1 81 = .ok (.iload_n 3, 1) := by decide +kernel
theorem d_m_message_82 : decode M_m_message.2.1 82 = .ok (.iload 8, 2) := by decide +kernel
theorem d_m_message_84 : decode M_m_message.2.1 84 = .ok (.iload 7, 2) := by decide +kernel
theorem d_m_message_86 : decode M_m_message.2.1 86 = .ok (.invokevirtual 132, 3) := by decide +kernel
theorem d_m_message_89 : decode M_m_message.2.1 89 = .ok (.iinc 6 1, 3) := by decide +kernel
theorem d_m_message_92 : decode M_m_message.2.1 92 = .ok (.goto (-79), 3) := by decide +kernel
theorem d_m_message_95 : decode M_m_message.2.1 95 = .ok (.aload_n 0, 1) := by decide +kernel
theorem d_m_message_96 : decode M_m_message.2.1 96 = .ok (.iload_n 1, 1) := by decide +kernel
theorem d_m_message_97 : decode M_m_message.2.1 97 = .ok (.invokevirtual 149, 3) := by decide +kernel
theorem d_m_message_100 : decode M_m_message.2.1 100 = .ok (.iconst 0, 1) := by decide +kernel
theorem d_m_message_101 : decode M_m_message.2.1 101 = .ok (.istore 6, 2) := by decide +kernel
theorem d_m_message_103 : decode M_m_message.2.1 103 = .ok (.iload 6, 2) := by decide +kernel
theorem d_m_message_105 : decode M_m_message.2.1 105 = .ok (.aload_n 0, 1) := by decide +kernel
theorem d_m_message_106 : decode M_m_message.2.1 106 = .ok (.getfield 136, 3) := by decide +kernel
theorem d_m_message_109 : decode M_m_message.2.1 109 = .ok (.if_icmp .ge 21, 3) := by decide +kernel
theorem d_m_message_112 : decode M_m_message.2.1 112 = .ok (.aload_n 0, 1) := by decide +kernel
theorem d_m_message_113 : decode M_m_message.2.1 113 = .ok (.iload_n 3, 1) := by decide +kernel
theorem d_m_message_114 : decode M_m_message.2.1 114 = .ok (.aload_n 0, 1) := by decide +kernel
theorem d_m_message_115 : decode M_m_message.2.1 115 = .ok (.getfield 35, 3) := by decide +kernel
theorem d_m_message_118 : decode M_m_message.2.1 118 = .ok (.iload 6, 2) := by decide +kernel
theorem d_m_message_120 : decode M_m_message.2.1 120 = .ok (.iaload, 1) := by decide +kernel
theorem d_m_message_121 : decode M_m_message.2.1 121 = .ok (.invokevirtual 152, 3) := by decide +kernel
theorem d_m_message_124 : decode M_m_message.2.1 124 = .ok (.iinc 6 1, 3) := by decide +kernel
theorem d_m_message_127 : decode M_m_message.2.1 127 = .ok (.goto (-24), 3) := by decide +kernel
theorem d_m_message_130 : decode M_m_message.2.1 130 = .ok (.aload_n 0, 1) := by decide +kernel
theorem d_m_message_131 : decode M_m_message.2.1 131 = .ok (.iload_n 1, 1) := by decide +kernel
theorem d_m_message_132 : decode M_m_message.2.1 132 = .ok (.invokevirtual 155, 3) := by decide +kernel
theorem d_m_message_135 : decode M_m_message.2.1 135 = .ok (.aload_n 0, 1) := by decide +kernel
theorem d_m_message_136 : decode M_m_message.2.1 136 = .ok (.getfield 32, 3) := by decide +kernel
theorem d_m_message_139 : decode M_m_message.2.1 139 = .ok (.iload_n 1, 1) := by decide +kernel
theorem d_m_message_140 : decode M_m_message.2.1 140 = .ok (.aload_n 0, 1) := by decide +kernel
theorem d_m_message_141 : decode M_m_message.2.1 141 = .ok (.getfield 136, 3) := by decide +kernel
theorem d_m_message_144 : decode M_m_message.2.1 144 = .ok (.iastore, 1) := by decide +kernel
theorem d_m_message_145 : decode M_m_message.2.1 145 = .ok (.iconst 0, 1) := by decide +kernel
theorem d_m_message_146 : decode M_m_message.2.1 146 = .ok (.istore 6, 2) := by decide +kernel
theorem d_m_message_148 : decode M_m_message.2.1 148 = .ok (.iload 6, 2) := by decide +kernel
theorem d_m_message_150 : decode M_m_message.2.1 150 = .ok (.aload_n 0, 1) := by decide +kernel
theorem d_m_message_151 : decode M_m_message.2.1 151 = .ok (.getfield 136, 3) := by decide +kernel
theorem d_m_message_154 : decode M_m_message.2.1 154 = .ok (.if_icmp .ge 29, 3) := by decide +kernel
theorem d_m_message_157 : decode M_m_message.2.1 157 = .ok (.aload_n 0, 1) := by decide +kernel
theorem d_m_message_158 : decode M_m_message.2.1 158 = .ok (.getfield 29, 3) := by decide +kernel
theorem d_m_message_161 : decode M_m_message.2.1 161 = .ok (.sipush 900, 3) := by decide +kernel
theorem d_m_message_164 : decode M_m_message.2.1 164 = .ok (.iload_n 1, 1) := by decide +kernel
theorem d_m_message_165 : decode M_m_message.2.1 165 = .ok (.imul, 1) := by decide +kernel
theorem d_m_message_166 : decode M_m_message.2.1 166 = .ok (.iload 6, 2) := by decide +kernel
theorem d_m_message_168 : decode M_m_message.2.1 168 = .ok (.iadd, 1) := by decide +kernel
theorem d_m_message_169 : decode M_m_message.2.1 169 = .ok (.aload_n 0, 1) := by decide +kernel
theorem d_m_message_170 : decode M_m_message.2.1 170 = .ok (.getfield 35, 3) := by decide +kernel
theorem d_m_message_173 : decode M_m_message.2.1 173 = .ok (.iload 6, 2) := by decide +kernel
theorem d_m_message_175 : decode M_m_message.2.1 175 = .ok (.iaload, 1) := by decide +kernel
theorem d_m_message_176 : decode M_m_message.2.1 176 = .ok (.iastore, 1) := by decide +kernel
theorem d_m_message_177 : decode M_m_message.2.1 177 = .ok (.iinc 6 1, 3) := by decide +kernel
theorem d_m_message_180 : decode M_m_message.2.1 180 = .ok (.goto (-32), 3) := by decide +kernel
theorem d_m_message_183 : decode M_m_message.2.1 183 = .ok (.iload 5, 2) := by decide +kernel
theorem d_m_message_185 : decode M_m_message.2.1 185 = .ok (.ireturn, 1) := by decide +kernel
theorem d_m_tell_0 : decode M_m_tell.2.1 0 = .ok (.aload_n 0, 1) := by decide +kernel
theorem d_m_tell_1 : decode M_m_tell.2.1 1 = .ok (.iload_n 1, 1) := by decide +kernel
theorem d_m_tell_2 : decode M_m_tell.2.1 2 = .ok (.iload_n 2, 1) := by decide +kernel
theorem d_m_tell_3 : decode M_m_tell.2.1 3 = .ok (.invokevirtual 98, 3) := by decide +kernel
theorem d_m_tell_6 : decode M_m_tell.2.1 6 = .ok (.ifCond .lt 4, 3) := by decide +kernel
theorem d_m_tell_9 : decode M_m_tell.2.1 9 = .ok (.return_, 1) := by decide +kernel
theorem d_m_tell_10 : decode M_m_tell.2.1 10 = .ok (.iconst 0, 1) := by decide +kernel
theorem d_m_tell_11 : decode M_m_tell.2.1 11 = .ok (.istore_n 3, 1) := by decide +kernel
theorem d_m_tell_12 : decode M_m_tell.2.1 12 = .ok (.iload_n 3, 1) := by decide +kernel
theorem d_m_tell_13 : decode M_m_tell.2.1 13 = .ok (.aload_n 0, 1) := by decide +kernel
theorem d_m_tell_14 : decode M_m_tell.2.1 14 = .ok (.getfield 26, 3) := by decide +kernel
theorem d_m_tell_17 : decode M_m_tell.2.1 17 = .ok (.iload_n 1, 1) := by decide +kernel
theorem d_m_tell_18 : decode M_m_tell.2.1 18 = .ok (.iaload, 1) := by decide +kernel
theorem d_m_tell_19 : decode M_m_tell.2.1 19 = .ok (.if_icmp .ge 25, 3) := by decide +kernel
theorem d_m_tell_22 : decode M_m_tell.2.1 22 = .ok (.aload_n 0, 1) := by decide +kernel
theorem d_m_tell_23 : decode M_m_tell.2.1 23 = .ok (.getfield 23, 3) := by decide +kernel
theorem d_m_tell_26 : decode M_m_tell.2.1 26 = .ok (.bipush 32, 2) := by decide +kernel
theorem d_m_tell_28 : decode M_m_tell.2.1 28 = .ok (.iload_n 1, 1) := by decide +kernel
theorem d_m_tell_29 : decode M_m_tell.2.1 29 = .ok (.imul, 1) := by decide +kernel
theorem d_m_tell_30 : decode M_m_tell.2.1 30 = .ok (.iload_n 3, 1) := by decide +kernel
theorem d_m_tell_31 : decode M_m_tell.2.1 31 = .ok (.iadd, 1) := by decide +kernel
theorem d_m_tell_32 : decode M_m_tell.2.1 32 = .ok (.iaload, 1) := by decide +kernel
theorem d_m_tell_33 : decode M_m_tell.2.1 33 = .ok (.iload_n 2, 1) := by decide +kernel
theorem d_m_tell_34 : decode M_m_tell.2.1 34 = .ok (.if_icmp .ne 4, 3) := by decide +kernel
theorem d_m_tell_37 : decode M_m_tell.2.1 37 = .ok (.return_, 1) := by decide +kernel
theorem d_m_tell_38 : decode M_m_tell.2.1 38 = .ok (.iinc 3 1, 3) := by decide +kernel
theorem d_m_tell_41 : decode M_m_tell.2.1 41 = .ok (.goto (-29), 3) := by decide +kernel
theorem d_m_tell_44 : decode M_m_tell.2.1 44 = .ok (.aload_n 0, 1) := by decide +kernel
theorem d_m_tell_45 : decode M_m_tell.2.1 45 = .ok (.getfield 23, 3) := by decide +kernel
theorem d_m_tell_48 : decode M_m_tell.2.1 48 = .ok (.bipush 32, 2) := by decide +kernel
theorem d_m_tell_50 : decode M_m_tell.2.1 50 = .ok (.iload_n 1, 1) := by decide +kernel
theorem d_m_tell_51 : decode M_m_tell.2.1 51 = .ok (.imul, 1) := by decide +kernel
theorem d_m_tell_52 : decode M_m_tell.2.1 52 = .ok (.aload_n 0, 1) := by decide +kernel
theorem d_m_tell_53 : decode M_m_tell.2.1 53 = .ok (.getfield 26, 3) := by decide +kernel
theorem d_m_tell_56 : decode M_m_tell.2.1 56 = .ok (.iload_n 1, 1) := by decide +kernel
theorem d_m_tell_57 : decode M_m_tell.2.1 57 = .ok (.iaload, 1) := by decide +kernel
theorem d_m_tell_58 : decode M_m_tell.2.1 58 = .ok (.iadd, 1) := by decide +kernel
theorem d_m_tell_59 : decode M_m_tell.2.1 59 = .ok (.iload_n 2, 1) := by decide +kernel
theorem d_m_tell_60 : decode M_m_tell.2.1 60 = .ok (.iastore, 1) := by decide +kernel
theorem d_m_tell_61 : decode M_m_tell.2.1 61 = .ok (.aload_n 0, 1) := by decide +kernel
theorem d_m_tell_62 : decode M_m_tell.2.1 62 = .ok (.getfield 26, 3) := by decide +kernel
theorem d_m_tell_65 : decode M_m_tell.2.1 65 = .ok (.iload_n 1, 1) := by decide +kernel
theorem d_m_tell_66 : decode M_m_tell.2.1 66 = .ok (.dup2, 1) := by decide +kernel
theorem d_m_tell_67 : decode M_m_tell.2.1 67 = .ok (.iaload, 1) := by decide +kernel
theorem d_m_tell_68 : decode M_m_tell.2.1 68 = .ok (.iconst 1, 1) := by decide +kernel
theorem d_m_tell_69 : decode M_m_tell.2.1 69 = .ok (.iadd, 1) := by decide +kernel
theorem d_m_tell_70 : decode M_m_tell.2.1 70 = .ok (.iastore, 1) := by decide +kernel
theorem d_m_tell_71 : decode M_m_tell.2.1 71 = .ok (.return_, 1) := by decide +kernel
theorem d_m_listWanted_0 : decode M_m_listWanted.2.1 0 = .ok (.aload_n 0, 1) := by decide +kernel
theorem d_m_listWanted_1 : decode M_m_listWanted.2.1 1 = .ok (.iconst 0, 1) := by decide +kernel
theorem d_m_listWanted_2 : decode M_m_listWanted.2.1 2 = .ok (.putfield 136, 3) := by decide +kernel
theorem d_m_listWanted_5 : decode M_m_listWanted.2.1 5 = .ok (.iconst 0, 1) := by decide +kernel
theorem d_m_listWanted_6 : decode M_m_listWanted.2.1 6 = .ok (.istore_n 2, 1) := by decide +kernel
theorem d_m_listWanted_7 : decode M_m_listWanted.2.1 7 = .ok (.iload_n 2, 1) := by decide +kernel
theorem d_m_listWanted_8 : decode M_m_listWanted.2.1 8 = .ok (.aload_n 0, 1) := by decide +kernel
theorem d_m_listWanted_9 : decode M_m_listWanted.2.1 9 = .ok (.getfield 26, 3) := by decide +kernel
theorem d_m_listWanted_12 : decode M_m_listWanted.2.1 12 = .ok (.iload_n 1, 1) := by decide +kernel
theorem d_m_listWanted_13 : decode M_m_listWanted.2.1 13 = .ok (.iaload, 1) := by decide +kernel
theorem d_m_listWanted_14 : decode M_m_listWanted.2.1 14 = .ok (.if_icmp .ge 25, 3) := by decide +kernel
theorem d_m_listWanted_17 : decode M_m_listWanted.2.1 17 = .ok (.aload_n 0, 1) := by decide +kernel
theorem d_m_listWanted_18 : decode M_m_listWanted.2.1 18 = .ok (.iload_n 1, 1) := by decide +kernel
theorem d_m_listWanted_19 : decode M_m_listWanted.2.1 19 = .ok (.aload_n 0, 1) := by decide +kernel
theorem d_m_listWanted_20 : decode M_m_listWanted.2.1 20 = .ok (.getfield 23, 3) := by decide +kernel
theorem d_m_listWanted_23 : decode M_m_listWanted.2.1 23 = .ok (.bipush 32, 2) := by decide +kernel
theorem d_m_listWanted_25 : decode M_m_listWanted.2.1 25 = .ok (.iload_n 1, 1) := by decide +kernel
theorem d_m_listWanted_26 : decode M_m_listWanted.2.1 26 = .ok (.imul, 1) := by decide +kernel
theorem d_m_listWanted_27 : decode M_m_listWanted.2.1 27 = .ok (.iload_n 2, 1) := by decide +kernel
theorem d_m_listWanted_28 : decode M_m_listWanted.2.1 28 = .ok (.iadd, 1) := by decide +kernel
theorem d_m_listWanted_29 : decode M_m_listWanted.2.1 29 = .ok (.iaload, 1) := by decide +kernel
theorem d_m_listWanted_30 : decode M_m_listWanted.2.1 30 = .ok (.invokevirtual 146, 3) := by decide +kernel
theorem d_m_listWanted_33 : decode M_m_listWanted.2.1 33 = .ok (.iinc 2 1, 3) := by decide +kernel
theorem d_m_listWanted_36 : decode M_m_listWanted.2.1 36 = .ok (.goto (-29), 3) := by decide +kernel
theorem d_m_listWanted_39 : decode M_m_listWanted.2.1 39 = .ok (.bipush 32, 2) := by decide +kernel
theorem d_m_listWanted_41 : decode M_m_listWanted.2.1 41 = .ok (.iload_n 1, 1) := by decide +kernel
theorem d_m_listWanted_42 : decode M_m_listWanted.2.1 42 = .ok (.imul, 1) := by decide +kernel
theorem d_m_listWanted_43 : decode M_m_listWanted.2.1 43 = .ok (.istore_n 2, 1) := by decide +kernel
theorem d_m_listWanted_44 : decode M_m_listWanted.2.1 44 = .ok (.iload_n 2, 1) := by decide +kernel
theorem d_m_listWanted_45 : decode M_m_listWanted.2.1 45 = .ok (.bipush 32, 2) := by decide +kernel
theorem d_m_listWanted_47 : decode M_m_listWanted.2.1 47 = .ok (.iload_n 1, 1) := by decide +kernel
theorem d_m_listWanted_48 : decode M_m_listWanted.2.1 48 = .ok (.imul, 1) := by decide +kernel
theorem d_m_listWanted_49 : decode M_m_listWanted.2.1 49 = .ok (.aload_n 0, 1) := by decide +kernel
theorem d_m_listWanted_50 : decode M_m_listWanted.2.1 50 = .ok (.getfield 20, 3) := by decide +kernel
theorem d_m_listWanted_53 : decode M_m_listWanted.2.1 53 = .ok (.iload_n 1, 1) := by decide +kernel
theorem d_m_listWanted_54 : decode M_m_listWanted.2.1 54 = .ok (.iaload, 1) := by decide +kernel
theorem d_m_listWanted_55 : decode M_m_listWanted.2.1 55 = .ok (.iadd, 1) := by decide +kernel
theorem d_m_listWanted_56 : decode M_m_listWanted.2.1 56 = .ok (.if_icmp .ge 120, 3) := by decide +kernel
theorem d_m_listWanted_59 : decode M_m_listWanted.2.1 59 = .ok (.aload_n 0, 1) := by decide +kernel
theorem d_m_listWanted_60 : decode M_m_listWanted.2.1 60 = .ok (.iload_n 2, 1) := by decide +kernel
theorem d_m_listWanted_61 : decode M_m_listWanted.2.1 61 = .ok (.invokevirtual 101, 3) := by decide +kernel
theorem d_m_listWanted_64 : decode M_m_listWanted.2.1 64 = .ok (.istore_n 3, 1) := by decide +kernel
theorem d_m_listWanted_65 : decode M_m_listWanted.2.1 65 = .ok (.iconst 0, 1) := by decide +kernel
theorem d_m_listWanted_66 : decode M_m_listWanted.2.1 66 = .ok (.istore 4, 2) := by decide +kernel
theorem d_m_listWanted_68 : decode M_m_listWanted.2.1 68 = .ok (.iload_n 3, 1) := by decide +kernel
theorem d_m_listWanted_69 : decode M_m_listWanted.2.1 69 = .ok (.iconst 1, 1) := by decide +kernel
theorem d_m_listWanted_70 : decode M_m_listWanted.2.1 70 = .ok (.if_icmp .eq 8, 3) := by decide +kernel
theorem d_m_listWanted_73 : decode M_m_listWanted.2.1 73 = .ok (.iload_n 3, 1) := by decide +kernel
theorem d_m_listWanted_74 : decode M_m_listWanted.2.1 74 = .ok (.iconst 3, 1) := by decide +kernel
theorem d_m_listWanted_75 : decode M_m_listWanted.2.1 75 = .ok (.if_icmp .ne 95, 3) := by decide +kernel
theorem d_m_listWanted_78 : decode M_m_listWanted.2.1 78 = .ok (.iload 4, 2) := by decide +kernel
theorem d_m_listWanted_80 : decode M_m_listWanted.2.1 80 = .ok (.aload_n 0, 1) := by decide +kernel
theorem d_m_listWanted_81 : decode M_m_listWanted.2.1 81 = .ok (.getfield 13, 3) := by decide +kernel
theorem d_m_listWanted_84 : decode M_m_listWanted.2.1 84 = .ok (.iload_n 2, 1) := by decide +kernel
theorem d_m_listWanted_85 : decode M_m_listWanted.2.1 85 = .ok (.iaload, 1) := by decide +kernel
theorem d_m_listWanted_86 : decode M_m_listWanted.2.1 86 = .ok (.if_icmp .ge 84, 3) := by decide +kernel
theorem d_m_listWanted_89 : decode M_m_listWanted.2.1 89 = .ok (.aload_n 0, 1) := by decide +kernel
theorem d_m_listWanted_90 : decode M_m_listWanted.2.1 90 = .ok (.iload_n 2, 1) := by decide +kernel
theorem d_m_listWanted_91 : decode M_m_listWanted.2.1 91 = .ok (.iload 4, 2) := by decide +kernel
theorem d_m_listWanted_93 : decode M_m_listWanted.2.1 93 = .ok (.invokevirtual 90, 3) := by decide +kernel
theorem d_m_listWanted_96 : decode M_m_listWanted.2.1 96 = .ok (.ifCond .eq 74, 3) := by decide +kernel
theorem d_m_listWanted_99 : decode M_m_listWanted.2.1 99 = .ok (.aload_n 0, 1) := by decide +kernel
theorem d_m_listWanted_100 : decode M_m_listWanted.2.1 100 = .ok (.getfield 51, 3) := by decide +kernel
theorem d_m_listWanted_103 : decode M_m_listWanted.2.1 103 = .ok (.istore 4, 2) := by decide +kernel
theorem d_m_listWanted_105 : decode M_m_listWanted.2.1 105 = .ok (.aload_n 0, 1) := by decide +kernel
theorem d_m_listWanted_106 : decode M_m_listWanted.2.1 106 = .ok (.getfield 47, 3) := by decide +kernel
theorem d_m_listWanted_109 : decode M_m_listWanted.2.1 109 = .ok (.bipush 70, 2) := by decide +kernel
theorem d_m_listWanted_111 : decode M_m_listWanted.2.1 111 = .ok (.if_icmp .eq 21, 3) := by decide +kernel
theorem d_m_listWanted_114 : decode M_m_listWanted.2.1 114 = .ok (.aload_n 0, 1) := by decide +kernel
theorem d_m_listWanted_115 : decode M_m_listWanted.2.1 115 = .ok (.getfield 47, 3) := by decide +kernel
theorem d_m_listWanted_118 : decode M_m_listWanted.2.1 118 = .ok (.bipush 77, 2) := by decide +kernel
theorem d_m_listWanted_120 : decode M_m_listWanted.2.1 120 = .ok (.if_icmp .eq 12, 3) := by decide +kernel
theorem d_m_listWanted_123 : decode M_m_listWanted.2.1 123 = .ok (.aload_n 0, 1) := by decide +kernel
theorem d_m_listWanted_124 : decode M_m_listWanted.2.1 124 = .ok (.getfield 47, 3) := by decide +kernel
theorem d_m_listWanted_127 : decode M_m_listWanted.2.1 127 = .ok (.bipush 80, 2) := by decide +kernel
theorem d_m_listWanted_129 : decode M_m_listWanted.2.1 129 = .ok (.if_icmp .ne (-61), 3) := by decide +kernel
theorem d_m_listWanted_132 : decode M_m_listWanted.2.1 132 = .ok (.aload_n 0, 1) := by decide +kernel
theorem d_m_listWanted_133 : decode M_m_listWanted.2.1 133 = .ok (.getfield 47, 3) := by decide +kernel
theorem d_m_listWanted_136 : decode M_m_listWanted.2.1 136 = .ok (.bipush 80, 2) := by decide +kernel
theorem d_m_listWanted_138 : decode M_m_listWanted.2.1 138 = .ok (.if_icmp .ne 10, 3) := by decide +kernel
theorem d_m_listWanted_141 : decode M_m_listWanted.2.1 141 = .ok (.aload_n 0, 1) := by decide +kernel
theorem d_m_listWanted_142 : decode M_m_listWanted.2.1 142 = .ok (.getfield 61, 3) := by decide +kernel
theorem d_m_listWanted_145 : decode M_m_listWanted.2.1 145 = .ok (.goto 4, 3) := by decide +kernel
theorem d_m_listWanted_148 : decode M_m_listWanted.2.1 148 = .ok (.iconst (-1), 1) := by decide +kernel
theorem d_m_listWanted_149 : decode M_m_listWanted.2.1 149 = .ok (.istore 5, 2) := by decide +kernel
theorem d_m_listWanted_151 : decode M_m_listWanted.2.1 151 = .ok (.aload_n 0, 1) := by decide +kernel
theorem d_m_listWanted_152 : decode M_m_listWanted.2.1 152 = .ok (.iload_n 1, 1) := by decide +kernel
theorem d_m_listWanted_153 : decode M_m_listWanted.2.1 153 = .ok (.aload_n 0, 1) := by decide +kernel
theorem d_m_listWanted_154 : decode M_m_listWanted.2.1 154 = .ok (.getfield 58, 3) := by decide +kernel
theorem d_m_listWanted_157 : decode M_m_listWanted.2.1 157 = .ok (.invokevirtual 146, 3) := by decide +kernel
theorem d_m_listWanted_160 : decode M_m_listWanted.2.1 160 = .ok (.aload_n 0, 1) := by decide +kernel
theorem d_m_listWanted_161 : decode M_m_listWanted.2.1 161 = .ok (.iload_n 1, 1) := by decide +kernel
theorem d_m_listWanted_162 : decode M_m_listWanted.2.1 162 = .ok (.iload 5, 2) := by decide +kernel
theorem d_m_listWanted_164 : decode M_m_listWanted.2.1 164 = .ok (.invokevirtual 146, 3) := by decide +kernel
theorem d_m_listWanted_167 : decode M_m_listWanted.2.1 167 = .ok (.goto (-99), 3) := by decide +kernel
theorem d_m_listWanted_170 : decode M_m_listWanted.2.1 170 = .ok (.iinc 2 1, 3) := by decide +kernel
theorem d_m_listWanted_173 : decode M_m_listWanted.2.1 173 = .ok (.goto (-129), 3) := by decide +kernel
theorem d_m_listWanted_176 : decode M_m_listWanted.2.1 176 = .ok (.return_, 1) := by decide +kernel
theorem d_m_lack_0 : decode M_m_lack.2.1 0 = .ok (.iload_n 2, 1) := by decide +kernel
theorem d_m_lack_1 : decode M_m_lack.2.1 1 = .ok (.ifCond .lt 17, 3) := by decide +kernel
theorem d_m_lack_4 : decode M_m_lack.2.1 4 = .ok (.aload_n 0, 1) := by decide +kernel
theorem d_m_lack_5 : decode M_m_lack.2.1 5 = .ok (.iload_n 1, 1) := by decide +kernel
theorem d_m_lack_6 : decode M_m_lack.2.1 6 = .ok (.iload_n 2, 1) := by decide +kernel
theorem d_m_lack_7 : decode M_m_lack.2.1 7 = .ok (.invokevirtual 98, 3) := by decide +kernel
theorem d_m_lack_10 : decode M_m_lack.2.1 10 = .ok (.ifCond .ge 8, 3) := by decide +kernel
theorem d_m_lack_13 : decode M_m_lack.2.1 13 = .ok (.aload_n 0, 1) := by decide +kernel
theorem d_m_lack_14 : decode M_m_lack.2.1 14 = .ok (.iload_n 2, 1) := by decide +kernel
theorem d_m_lack_15 : decode M_m_lack.2.1 15 = .ok (.invokevirtual 142, 3) := by decide +kernel
theorem d_m_lack_18 : decode M_m_lack.2.1 18 = .ok (.return_, 1) := by decide +kernel
theorem d_m_held_0 : decode M_m_held.2.1 0 = .ok (.iload_n 1, 1) := by decide +kernel
theorem d_m_held_1 : decode M_m_held.2.1 1 = .ok (.invokestatic 129, 3) := by decide +kernel
theorem d_m_held_4 : decode M_m_held.2.1 4 = .ok (.ifCond .eq 12, 3) := by decide +kernel
theorem d_m_held_7 : decode M_m_held.2.1 7 = .ok (.aload_n 0, 1) := by decide +kernel
theorem d_m_held_8 : decode M_m_held.2.1 8 = .ok (.getfield 20, 3) := by decide +kernel
theorem d_m_held_11 : decode M_m_held.2.1 11 = .ok (.iload_n 1, 1) := by decide +kernel
theorem d_m_held_12 : decode M_m_held.2.1 12 = .ok (.iaload, 1) := by decide +kernel
theorem d_m_held_13 : decode M_m_held.2.1 13 = .ok (.goto 4, 3) := by decide +kernel
theorem d_m_held_16 : decode M_m_held.2.1 16 = .ok (.iconst (-1), 1) := by decide +kernel
theorem d_m_held_17 : decode M_m_held.2.1 17 = .ok (.ireturn, 1) := by decide +kernel
theorem d_m_name_0 : decode M_m_name.2.1 0 = .ok (.iload_n 1, 1) := by decide +kernel
theorem d_m_name_1 : decode M_m_name.2.1 1 = .ok (.invokestatic 129, 3) := by decide +kernel
theorem d_m_name_4 : decode M_m_name.2.1 4 = .ok (.ifCond .eq 17, 3) := by decide +kernel
theorem d_m_name_7 : decode M_m_name.2.1 7 = .ok (.iload_n 2, 1) := by decide +kernel
theorem d_m_name_8 : decode M_m_name.2.1 8 = .ok (.ifCond .lt 13, 3) := by decide +kernel
theorem d_m_name_11 : decode M_m_name.2.1 11 = .ok (.iload_n 2, 1) := by decide +kernel
theorem d_m_name_12 : decode M_m_name.2.1 12 = .ok (.aload_n 0, 1) := by decide +kernel
theorem d_m_name_13 : decode M_m_name.2.1 13 = .ok (.getfield 20, 3) := by decide +kernel
theorem d_m_name_16 : decode M_m_name.2.1 16 = .ok (.iload_n 1, 1) := by decide +kernel
theorem d_m_name_17 : decode M_m_name.2.1 17 = .ok (.iaload, 1) := by decide +kernel
theorem d_m_name_18 : decode M_m_name.2.1 18 = .ok (.if_icmp .lt 5, 3) := by decide +kernel
theorem d_m_name_21 : decode M_m_name.2.1 21 = .ok (.iconst (-1), 1) := by decide +kernel
theorem d_m_name_22 : decode M_m_name.2.1 22 = .ok (.ireturn, 1) := by decide +kernel
theorem d_m_name_23 : decode M_m_name.2.1 23 = .ok (.aload_n 0, 1) := by decide +kernel
theorem d_m_name_24 : decode M_m_name.2.1 24 = .ok (.iconst 0, 1) := by decide +kernel
theorem d_m_name_25 : decode M_m_name.2.1 25 = .ok (.putfield 136, 3) := by decide +kernel
theorem d_m_name_28 : decode M_m_name.2.1 28 = .ok (.bipush 32, 2) := by decide +kernel
theorem d_m_name_30 : decode M_m_name.2.1 30 = .ok (.iload_n 1, 1) := by decide +kernel
theorem d_m_name_31 : decode M_m_name.2.1 31 = .ok (.imul, 1) := by decide +kernel
theorem d_m_name_32 : decode M_m_name.2.1 32 = .ok (.istore_n 3, 1) := by decide +kernel
theorem d_m_name_33 : decode M_m_name.2.1 33 = .ok (.iload_n 3, 1) := by decide +kernel
theorem d_m_name_34 : decode M_m_name.2.1 34 = .ok (.bipush 32, 2) := by decide +kernel
theorem d_m_name_36 : decode M_m_name.2.1 36 = .ok (.iload_n 1, 1) := by decide +kernel
theorem d_m_name_37 : decode M_m_name.2.1 37 = .ok (.imul, 1) := by decide +kernel
theorem d_m_name_38 : decode M_m_name.2.1 38 = .ok (.aload_n 0, 1) := by decide +kernel
theorem d_m_name_39 : decode M_m_name.2.1 39 = .ok (.getfield 20, 3) := by decide +kernel
theorem d_m_name_42 : decode M_m_name.2.1 42 = .ok (.iload_n 1, 1) := by decide +kernel
theorem d_m_name_43 : decode M_m_name.2.1 43 = .ok (.iaload, 1) := by decide +kernel
theorem d_m_name_44 : decode M_m_name.2.1 44 = .ok (.iadd, 1) := by decide +kernel
theorem d_m_name_45 : decode M_m_name.2.1 45 = .ok (.if_icmp .ge 19, 3) := by decide +kernel
theorem d_m_name_48 : decode M_m_name.2.1 48 = .ok (.aload_n 0, 1) := by decide +kernel
theorem d_m_name_49 : decode M_m_name.2.1 49 = .ok (.aload_n 0, 1) := by decide +kernel
theorem d_m_name_50 : decode M_m_name.2.1 50 = .ok (.getfield 17, 3) := by decide +kernel
theorem d_m_name_53 : decode M_m_name.2.1 53 = .ok (.iload_n 3, 1) := by decide +kernel
theorem d_m_name_54 : decode M_m_name.2.1 54 = .ok (.iaload, 1) := by decide +kernel
theorem d_m_name_55 : decode M_m_name.2.1 55 = .ok (.invokevirtual 142, 3) := by decide +kernel
theorem d_m_name_58 : decode M_m_name.2.1 58 = .ok (.iinc 3 1, 3) := by decide +kernel
theorem d_m_name_61 : decode M_m_name.2.1 61 = .ok (.goto (-28), 3) := by decide +kernel
theorem d_m_name_64 : decode M_m_name.2.1 64 = .ok (.aload_n 0, 1) := by decide +kernel
theorem d_m_name_65 : decode M_m_name.2.1 65 = .ok (.getfield 35, 3) := by decide +kernel
theorem d_m_name_68 : decode M_m_name.2.1 68 = .ok (.iload_n 2, 1) := by decide +kernel
theorem d_m_name_69 : decode M_m_name.2.1 69 = .ok (.iaload, 1) := by decide +kernel
theorem d_m_name_70 : decode M_m_name.2.1 70 = .ok (.ireturn, 1) := by decide +kernel
theorem d_m_octet_0 : decode M_m_octet.2.1 0 = .ok (.iload_n 1, 1) := by decide +kernel
theorem d_m_octet_1 : decode M_m_octet.2.1 1 = .ok (.invokestatic 129, 3) := by decide +kernel
theorem d_m_octet_4 : decode M_m_octet.2.1 4 = .ok (.ifCond .eq 12, 3) := by decide +kernel
theorem d_m_octet_7 : decode M_m_octet.2.1 7 = .ok (.aload_n 0, 1) := by decide +kernel
theorem d_m_octet_8 : decode M_m_octet.2.1 8 = .ok (.iload_n 1, 1) := by decide +kernel
theorem d_m_octet_9 : decode M_m_octet.2.1 9 = .ok (.iload_n 2, 1) := by decide +kernel
theorem d_m_octet_10 : decode M_m_octet.2.1 10 = .ok (.invokevirtual 98, 3) := by decide +kernel
theorem d_m_octet_13 : decode M_m_octet.2.1 13 = .ok (.goto 4, 3) := by decide +kernel
theorem d_m_octet_16 : decode M_m_octet.2.1 16 = .ok (.iconst (-1), 1) := by decide +kernel
theorem d_m_octet_17 : decode M_m_octet.2.1 17 = .ok (.istore 4, 2) := by decide +kernel
theorem d_m_octet_19 : decode M_m_octet.2.1 19 = .ok (.iload 4, 2) := by decide +kernel
theorem d_m_octet_21 : decode M_m_octet.2.1 21 = .ok (.ifCond .lt 18, 3) := by decide +kernel
theorem d_m_octet_24 : decode M_m_octet.2.1 24 = .ok (.iload_n 3, 1) := by decide +kernel
theorem d_m_octet_25 : decode M_m_octet.2.1 25 = .ok (.ifCond .lt 14, 3) := by decide +kernel
theorem d_m_octet_28 : decode M_m_octet.2.1 28 = .ok (.iload_n 3, 1) := by decide +kernel
theorem d_m_octet_29 : decode M_m_octet.2.1 29 = .ok (.aload_n 0, 1) := by decide +kernel
theorem d_m_octet_30 : decode M_m_octet.2.1 30 = .ok (.getfield 13, 3) := by decide +kernel
theorem d_m_octet_33 : decode M_m_octet.2.1 33 = .ok (.iload 4, 2) := by decide +kernel
theorem d_m_octet_35 : decode M_m_octet.2.1 35 = .ok (.iaload, 1) := by decide +kernel
theorem d_m_octet_36 : decode M_m_octet.2.1 36 = .ok (.if_icmp .lt 7, 3) := by decide +kernel
theorem d_m_octet_39 : decode M_m_octet.2.1 39 = .ok (.iconst (-1), 1) := by decide +kernel
theorem d_m_octet_40 : decode M_m_octet.2.1 40 = .ok (.goto 10, 3) := by decide +kernel
theorem d_m_octet_43 : decode M_m_octet.2.1 43 = .ok (.aload_n 0, 1) := by decide +kernel
theorem d_m_octet_44 : decode M_m_octet.2.1 44 = .ok (.iload 4, 2) := by decide +kernel
theorem d_m_octet_46 : decode M_m_octet.2.1 46 = .ok (.iload_n 3, 1) := by decide +kernel
theorem d_m_octet_47 : decode M_m_octet.2.1 47 = .ok (.invokevirtual 40, 3) := by decide +kernel
theorem d_m_octet_50 : decode M_m_octet.2.1 50 = .ok (.ireturn, 1) := by decide +kernel
theorem d_m_kind_0 : decode M_m_kind.2.1 0 = .ok (.iload_n 1, 1) := by decide +kernel
theorem d_m_kind_1 : decode M_m_kind.2.1 1 = .ok (.invokestatic 129, 3) := by decide +kernel
theorem d_m_kind_4 : decode M_m_kind.2.1 4 = .ok (.ifCond .eq 12, 3) := by decide +kernel
theorem d_m_kind_7 : decode M_m_kind.2.1 7 = .ok (.aload_n 0, 1) := by decide +kernel
theorem d_m_kind_8 : decode M_m_kind.2.1 8 = .ok (.iload_n 1, 1) := by decide +kernel
theorem d_m_kind_9 : decode M_m_kind.2.1 9 = .ok (.iload_n 2, 1) := by decide +kernel
theorem d_m_kind_10 : decode M_m_kind.2.1 10 = .ok (.invokevirtual 98, 3) := by decide +kernel
theorem d_m_kind_13 : decode M_m_kind.2.1 13 = .ok (.goto 4, 3) := by decide +kernel
theorem d_m_kind_16 : decode M_m_kind.2.1 16 = .ok (.iconst (-1), 1) := by decide +kernel
theorem d_m_kind_17 : decode M_m_kind.2.1 17 = .ok (.istore_n 3, 1) := by decide +kernel
theorem d_m_kind_18 : decode M_m_kind.2.1 18 = .ok (.iload_n 3, 1) := by decide +kernel
theorem d_m_kind_19 : decode M_m_kind.2.1 19 = .ok (.ifCond .ge 7, 3) := by decide +kernel
theorem d_m_kind_22 : decode M_m_kind.2.1 22 = .ok (.iconst (-1), 1) := by decide +kernel
theorem d_m_kind_23 : decode M_m_kind.2.1 23 = .ok (.goto 8, 3) := by decide +kernel
theorem d_m_kind_26 : decode M_m_kind.2.1 26 = .ok (.aload_n 0, 1) := by decide +kernel
theorem d_m_kind_27 : decode M_m_kind.2.1 27 = .ok (.iload_n 3, 1) := by decide +kernel
theorem d_m_kind_28 : decode M_m_kind.2.1 28 = .ok (.invokevirtual 101, 3) := by decide +kernel
theorem d_m_kind_31 : decode M_m_kind.2.1 31 = .ok (.ireturn, 1) := by decide +kernel
theorem d_m_wanted_0 : decode M_m_wanted.2.1 0 = .ok (.iload_n 1, 1) := by decide +kernel
theorem d_m_wanted_1 : decode M_m_wanted.2.1 1 = .ok (.invokestatic 129, 3) := by decide +kernel
theorem d_m_wanted_4 : decode M_m_wanted.2.1 4 = .ok (.ifCond .ne 5, 3) := by decide +kernel
theorem d_m_wanted_7 : decode M_m_wanted.2.1 7 = .ok (.iconst (-1), 1) := by decide +kernel
theorem d_m_wanted_8 : decode M_m_wanted.2.1 8 = .ok (.ireturn, 1) := by decide +kernel
theorem d_m_wanted_9 : decode M_m_wanted.2.1 9 = .ok (.aload_n 0, 1) := by decide +kernel
theorem d_m_wanted_10 : decode M_m_wanted.2.1 10 = .ok (.iload_n 1, 1) := by decide +kernel
theorem d_m_wanted_11 : decode M_m_wanted.2.1 11 = .ok (.invokevirtual 155, 3) := by decide +kernel
theorem d_m_wanted_14 : decode M_m_wanted.2.1 14 = .ok (.aload_n 0, 1) := by decide +kernel
theorem d_m_wanted_15 : decode M_m_wanted.2.1 15 = .ok (.getfield 136, 3) := by decide +kernel
theorem d_m_wanted_18 : decode M_m_wanted.2.1 18 = .ok (.ireturn, 1) := by decide +kernel
theorem d_m_wants_0 : decode M_m_wants.2.1 0 = .ok (.iload_n 1, 1) := by decide +kernel
theorem d_m_wants_1 : decode M_m_wants.2.1 1 = .ok (.invokestatic 129, 3) := by decide +kernel
theorem d_m_wants_4 : decode M_m_wants.2.1 4 = .ok (.ifCond .ne 5, 3) := by decide +kernel
theorem d_m_wants_7 : decode M_m_wants.2.1 7 = .ok (.iconst 0, 1) := by decide +kernel
theorem d_m_wants_8 : decode M_m_wants.2.1 8 = .ok (.ireturn, 1) := by decide +kernel
theorem d_m_wants_9 : decode M_m_wants.2.1 9 = .ok (.aload_n 0, 1) := by decide +kernel
theorem d_m_wants_10 : decode M_m_wants.2.1 10 = .ok (.iload_n 1, 1) := by decide +kernel
theorem d_m_wants_11 : decode M_m_wants.2.1 11 = .ok (.invokevirtual 155, 3) := by decide +kernel
theorem d_m_wants_14 : decode M_m_wants.2.1 14 = .ok (.iconst 0, 1) := by decide +kernel
theorem d_m_wants_15 : decode M_m_wants.2.1 15 = .ok (.istore_n 3, 1) := by decide +kernel
theorem d_m_wants_16 : decode M_m_wants.2.1 16 = .ok (.iconst 0, 1) := by decide +kernel
theorem d_m_wants_17 : decode M_m_wants.2.1 17 = .ok (.istore 4, 2) := by decide +kernel
theorem d_m_wants_19 : decode M_m_wants.2.1 19 = .ok (.iload 4, 2) := by decide +kernel
theorem d_m_wants_21 : decode M_m_wants.2.1 21 = .ok (.aload_n 0, 1) := by decide +kernel
theorem d_m_wants_22 : decode M_m_wants.2.1 22 = .ok (.getfield 136, 3) := by decide +kernel
theorem d_m_wants_25 : decode M_m_wants.2.1 25 = .ok (.if_icmp .ge 30, 3) := by decide +kernel
theorem d_m_wants_28 : decode M_m_wants.2.1 28 = .ok (.iload_n 3, 1) := by decide +kernel
theorem d_m_wants_29 : decode M_m_wants.2.1 29 = .ok (.ifCond .ne 14, 3) := by decide +kernel
theorem d_m_wants_32 : decode M_m_wants.2.1 32 = .ok (.aload_n 0, 1) := by decide +kernel
theorem d_m_wants_33 : decode M_m_wants.2.1 33 = .ok (.getfield 35, 3) := by decide +kernel
theorem d_m_wants_36 : decode M_m_wants.2.1 36 = .ok (.iload 4, 2) := by decide +kernel
theorem d_m_wants_38 : decode M_m_wants.2.1 38 = .ok (.iaload, 1) := by decide +kernel
theorem d_m_wants_39 : decode M_m_wants.2.1 39 = .ok (.iload_n 2, 1) := by decide +kernel
theorem d_m_wants_40 : decode M_m_wants.2.1 40 = .ok (.if_icmp .ne 7, 3) := by decide +kernel
theorem d_m_wants_43 : decode M_m_wants.2.1 43 = .ok (.iconst 1, 1) := by decide +kernel
theorem d_m_wants_44 : decode M_m_wants.2.1 44 = .ok (.goto 4, 3) := by decide +kernel
theorem d_m_wants_47 : decode M_m_wants.2.1 47 = .ok (.iconst 0, 1) := by decide +kernel
theorem d_m_wants_48 : decode M_m_wants.2.1 48 = .ok (.istore_n 3, 1) := by decide +kernel
theorem d_m_wants_49 : decode M_m_wants.2.1 49 = .ok (.iinc 4 1, 3) := by decide +kernel
theorem d_m_wants_52 : decode M_m_wants.2.1 52 = .ok (.goto (-33), 3) := by decide +kernel
theorem d_m_wants_55 : decode M_m_wants.2.1 55 = .ok (.iload_n 3, 1) := by decide +kernel
theorem d_m_wants_56 : decode M_m_wants.2.1 56 = .ok (.ireturn, 1) := by decide +kernel
theorem d_m_checkIns_0 : decode M_m_checkIns.2.1 0 = .ok (.iload_n 1, 1) := by decide +kernel
theorem d_m_checkIns_1 : decode M_m_checkIns.2.1 1 = .ok (.invokestatic 129, 3) := by decide +kernel
theorem d_m_checkIns_4 : decode M_m_checkIns.2.1 4 = .ok (.ifCond .ne 5, 3) := by decide +kernel
theorem d_m_checkIns_7 : decode M_m_checkIns.2.1 7 = .ok (.iconst (-1), 1) := by decide +kernel
theorem d_m_checkIns_8 : decode M_m_checkIns.2.1 8 = .ok (.ireturn, 1) := by decide +kernel
theorem d_m_checkIns_9 : decode M_m_checkIns.2.1 9 = .ok (.iconst 0, 1) := by decide +kernel
theorem d_m_checkIns_10 : decode M_m_checkIns.2.1 10 = .ok (.istore_n 2, 1) := by decide +kernel
theorem d_m_checkIns_11 : decode M_m_checkIns.2.1 11 = .ok (.bipush 32, 2) := by decide +kernel
theorem d_m_checkIns_13 : decode M_m_checkIns.2.1 13 = .ok (.iload_n 1, 1) := by decide +kernel
theorem d_m_checkIns_14 : decode M_m_checkIns.2.1 14 = .ok (.imul, 1) := by decide +kernel
theorem d_m_checkIns_15 : decode M_m_checkIns.2.1 15 = .ok (.istore_n 3, 1) := by decide +kernel
theorem d_m_checkIns_16 : decode M_m_checkIns.2.1 16 = .ok (.iload_n 3, 1) := by decide +kernel
theorem d_m_checkIns_17 : decode M_m_checkIns.2.1 17 = .ok (.bipush 32, 2) := by decide +kernel
theorem d_m_checkIns_19 : decode M_m_checkIns.2.1 19 = .ok (.iload_n 1, 1) := by decide +kernel
theorem d_m_checkIns_20 : decode M_m_checkIns.2.1 20 = .ok (.imul, 1) := by decide +kernel
theorem d_m_checkIns_21 : decode M_m_checkIns.2.1 21 = .ok (.aload_n 0, 1) := by decide +kernel
theorem d_m_checkIns_22 : decode M_m_checkIns.2.1 22 = .ok (.getfield 20, 3) := by decide +kernel
theorem d_m_checkIns_25 : decode M_m_checkIns.2.1 25 = .ok (.iload_n 1, 1) := by decide +kernel
theorem d_m_checkIns_26 : decode M_m_checkIns.2.1 26 = .ok (.iaload, 1) := by decide +kernel
theorem d_m_checkIns_27 : decode M_m_checkIns.2.1 27 = .ok (.iadd, 1) := by decide +kernel
theorem d_m_checkIns_28 : decode M_m_checkIns.2.1 28 = .ok (.if_icmp .ge 26, 3) := by decide +kernel
theorem d_m_checkIns_31 : decode M_m_checkIns.2.1 31 = .ok (.iload_n 2, 1) := by decide +kernel
theorem d_m_checkIns_32 : decode M_m_checkIns.2.1 32 = .ok (.aload_n 0, 1) := by decide +kernel
theorem d_m_checkIns_33 : decode M_m_checkIns.2.1 33 = .ok (.iload_n 1, 1) := by decide +kernel
theorem d_m_checkIns_34 : decode M_m_checkIns.2.1 34 = .ok (.iload_n 3, 1) := by decide +kernel
theorem d_m_checkIns_35 : decode M_m_checkIns.2.1 35 = .ok (.invokevirtual 164, 3) := by decide +kernel
theorem d_m_checkIns_38 : decode M_m_checkIns.2.1 38 = .ok (.ifCond .eq 7, 3) := by decide +kernel
theorem d_m_checkIns_41 : decode M_m_checkIns.2.1 41 = .ok (.iconst 1, 1) := by decide +kernel
theorem d_m_checkIns_42 : decode M_m_checkIns.2.1 42 = .ok (.goto 4, 3) := by decide +kernel
theorem d_m_checkIns_45 : decode M_m_checkIns.2.1 45 = .ok (.iconst 0, 1) := by decide +kernel
theorem d_m_checkIns_46 : decode M_m_checkIns.2.1 46 = .ok (.iadd, 1) := by decide +kernel
theorem d_m_checkIns_47 : decode M_m_checkIns.2.1 47 = .ok (.istore_n 2, 1) := by decide +kernel
theorem d_m_checkIns_48 : decode M_m_checkIns.2.1 48 = .ok (.iinc 3 1, 3) := by decide +kernel
theorem d_m_checkIns_51 : decode M_m_checkIns.2.1 51 = .ok (.goto (-35), 3) := by decide +kernel
theorem d_m_checkIns_54 : decode M_m_checkIns.2.1 54 = .ok (.iload_n 2, 1) := by decide +kernel
theorem d_m_checkIns_55 : decode M_m_checkIns.2.1 55 = .ok (.ireturn, 1) := by decide +kernel
theorem d_m_isCheckIn_0 : decode M_m_isCheckIn.2.1 0 = .ok (.aload_n 0, 1) := by decide +kernel
theorem d_m_isCheckIn_1 : decode M_m_isCheckIn.2.1 1 = .ok (.iload_n 2, 1) := by decide +kernel
theorem d_m_isCheckIn_2 : decode M_m_isCheckIn.2.1 2 = .ok (.invokevirtual 101, 3) := by decide +kernel
theorem d_m_isCheckIn_5 : decode M_m_isCheckIn.2.1 5 = .ok (.iconst 1, 1) := by decide +kernel
theorem d_m_isCheckIn_6 : decode M_m_isCheckIn.2.1 6 = .ok (.if_icmp .eq 5, 3) := by decide +kernel
theorem d_m_isCheckIn_9 : decode M_m_isCheckIn.2.1 9 = .ok (.iconst 0, 1) := by decide +kernel
theorem d_m_isCheckIn_10 : decode M_m_isCheckIn.2.1 10 = .ok (.ireturn, 1) := by decide +kernel
theorem d_m_isCheckIn_11 : decode M_m_isCheckIn.2.1 11 = .ok (.aload_n 0, 1) := by decide +kernel
theorem d_m_isCheckIn_12 : decode M_m_isCheckIn.2.1 12 = .ok (.iload_n 1, 1) := by decide +kernel
theorem d_m_isCheckIn_13 : decode M_m_isCheckIn.2.1 13 = .ok (.iload_n 2, 1) := by decide +kernel
theorem d_m_isCheckIn_14 : decode M_m_isCheckIn.2.1 14 = .ok (.invokevirtual 105, 3) := by decide +kernel
theorem d_m_isCheckIn_17 : decode M_m_isCheckIn.2.1 17 = .ok (.istore_n 3, 1) := by decide +kernel
theorem d_m_isCheckIn_18 : decode M_m_isCheckIn.2.1 18 = .ok (.iload_n 3, 1) := by decide +kernel
theorem d_m_isCheckIn_19 : decode M_m_isCheckIn.2.1 19 = .ok (.ifCond .lt 18, 3) := by decide +kernel
theorem d_m_isCheckIn_22 : decode M_m_isCheckIn.2.1 22 = .ok (.aload_n 0, 1) := by decide +kernel
theorem d_m_isCheckIn_23 : decode M_m_isCheckIn.2.1 23 = .ok (.iload_n 2, 1) := by decide +kernel
theorem d_m_isCheckIn_24 : decode M_m_isCheckIn.2.1 24 = .ok (.bipush 82, 2) := by decide +kernel
theorem d_m_isCheckIn_26 : decode M_m_isCheckIn.2.1 26 = .ok (.iload_n 3, 1) := by decide +kernel
theorem d_m_isCheckIn_27 : decode M_m_isCheckIn.2.1 27 = .ok (.invokevirtual 108, 3) := by decide +kernel
theorem d_m_isCheckIn_30 : decode M_m_isCheckIn.2.1 30 = .ok (.ifCond .eq 7, 3) := by decide +kernel
theorem d_m_isCheckIn_33 : decode M_m_isCheckIn.2.1 33 = .ok (.iconst 1, 1) := by decide +kernel
theorem d_m_isCheckIn_34 : decode M_m_isCheckIn.2.1 34 = .ok (.goto 4, 3) := by decide +kernel
theorem d_m_isCheckIn_37 : decode M_m_isCheckIn.2.1 37 = .ok (.iconst 0, 1) := by decide +kernel
theorem d_m_isCheckIn_38 : decode M_m_isCheckIn.2.1 38 = .ok (.ireturn, 1) := by decide +kernel
theorem d_m_timeline_0 : decode M_m_timeline.2.1 0 = .ok (.iload_n 1, 1) := by decide +kernel
theorem d_m_timeline_1 : decode M_m_timeline.2.1 1 = .ok (.invokestatic 129, 3) := by decide +kernel
theorem d_m_timeline_4 : decode M_m_timeline.2.1 4 = .ok (.ifCond .eq 7, 3) := by decide +kernel
theorem d_m_timeline_7 : decode M_m_timeline.2.1 7 = .ok (.iload_n 2, 1) := by decide +kernel
theorem d_m_timeline_8 : decode M_m_timeline.2.1 8 = .ok (.ifCond .ge 5, 3) := by decide +kernel
theorem d_m_timeline_11 : decode M_m_timeline.2.1 11 = .ok (.iconst (-1), 1) := by decide +kernel
theorem d_m_timeline_12 : decode M_m_timeline.2.1 12 = .ok (.ireturn, 1) := by decide +kernel
theorem d_m_timeline_13 : decode M_m_timeline.2.1 13 = .ok (.bipush 32, 2) := by decide +kernel
theorem d_m_timeline_15 : decode M_m_timeline.2.1 15 = .ok (.iload_n 1, 1) := by decide +kernel
theorem d_m_timeline_16 : decode M_m_timeline.2.1 16 = .ok (.imul, 1) := by decide +kernel
theorem d_m_timeline_17 : decode M_m_timeline.2.1 17 = .ok (.istore_n 3, 1) := by decide +kernel
theorem d_m_timeline_18 : decode M_m_timeline.2.1 18 = .ok (.iload_n 3, 1) := by decide +kernel
theorem d_m_timeline_19 : decode M_m_timeline.2.1 19 = .ok (.bipush 32, 2) := by decide +kernel
theorem d_m_timeline_21 : decode M_m_timeline.2.1 21 = .ok (.iload_n 1, 1) := by decide +kernel
theorem d_m_timeline_22 : decode M_m_timeline.2.1 22 = .ok (.imul, 1) := by decide +kernel
theorem d_m_timeline_23 : decode M_m_timeline.2.1 23 = .ok (.aload_n 0, 1) := by decide +kernel
theorem d_m_timeline_24 : decode M_m_timeline.2.1 24 = .ok (.getfield 20, 3) := by decide +kernel
theorem d_m_timeline_27 : decode M_m_timeline.2.1 27 = .ok (.iload_n 1, 1) := by decide +kernel
theorem d_m_timeline_28 : decode M_m_timeline.2.1 28 = .ok (.iaload, 1) := by decide +kernel
theorem d_m_timeline_29 : decode M_m_timeline.2.1 29 = .ok (.iadd, 1) := by decide +kernel
theorem d_m_timeline_30 : decode M_m_timeline.2.1 30 = .ok (.if_icmp .ge 127, 3) := by decide +kernel
theorem d_m_timeline_33 : decode M_m_timeline.2.1 33 = .ok (.aload_n 0, 1) := by decide +kernel
theorem d_m_timeline_34 : decode M_m_timeline.2.1 34 = .ok (.iload_n 1, 1) := by decide +kernel
theorem d_m_timeline_35 : decode M_m_timeline.2.1 35 = .ok (.iload_n 3, 1) := by decide +kernel
theorem d_m_timeline_36 : decode M_m_timeline.2.1 36 = .ok (.invokevirtual 164, 3) := by decide +kernel
theorem d_m_timeline_39 : decode M_m_timeline.2.1 39 = .ok (.ifCond .eq 112, 3) := by decide +kernel
theorem d_m_timeline_42 : decode M_m_timeline.2.1 42 = .ok (.aload_n 0, 1) := by decide +kernel
theorem d_m_timeline_43 : decode M_m_timeline.2.1 43 = .ok (.iload_n 3, 1) := by decide +kernel
theorem d_m_timeline_44 : decode M_m_timeline.2.1 44 = .ok (.invokevirtual 167, 3) := by decide +kernel
theorem d_m_timeline_47 : decode M_m_timeline.2.1 47 = .ok (.istore 4, 2) := by decide +kernel
theorem d_m_timeline_49 : decode M_m_timeline.2.1 49 = .ok (.iconst 0, 1) := by decide +kernel
theorem d_m_timeline_50 : decode M_m_timeline.2.1 50 = .ok (.istore 5, 2) := by decide +kernel
theorem d_m_timeline_52 : decode M_m_timeline.2.1 52 = .ok (.bipush 32, 2) := by decide +kernel
theorem d_m_timeline_54 : decode M_m_timeline.2.1 54 = .ok (.iload_n 1, 1) := by decide +kernel
theorem d_m_timeline_55 : decode M_m_timeline.2.1 55 = .ok (.imul, 1) := by decide +kernel
theorem d_m_timeline_56 : decode M_m_timeline.2.1 56 = .ok (.istore 6, 2) := by decide +kernel
theorem d_m_timeline_58 : decode M_m_timeline.2.1 58 = .ok (.iload 6, 2) := by decide +kernel
theorem d_m_timeline_60 : decode M_m_timeline.2.1 60 = .ok (.bipush 32, 2) := by decide +kernel
theorem d_m_timeline_62 : decode M_m_timeline.2.1 62 = .ok (.iload_n 1, 1) := by decide +kernel
theorem d_m_timeline_63 : decode M_m_timeline.2.1 63 = .ok (.imul, 1) := by decide +kernel
theorem d_m_timeline_64 : decode M_m_timeline.2.1 64 = .ok (.aload_n 0, 1) := by decide +kernel
theorem d_m_timeline_65 : decode M_m_timeline.2.1 65 = .ok (.getfield 20, 3) := by decide +kernel
theorem d_m_timeline_68 : decode M_m_timeline.2.1 68 = .ok (.iload_n 1, 1) := by decide +kernel
theorem d_m_timeline_69 : decode M_m_timeline.2.1 69 = .ok (.iaload, 1) := by decide +kernel
theorem d_m_timeline_70 : decode M_m_timeline.2.1 70 = .ok (.iadd, 1) := by decide +kernel
theorem d_m_timeline_71 : decode M_m_timeline.2.1 71 = .ok (.if_icmp .ge 67, 3) := by decide +kernel
theorem d_m_timeline_74 : decode M_m_timeline.2.1 74 = .ok (.aload_n 0, 1) := by decide +kernel
theorem d_m_timeline_75 : decode M_m_timeline.2.1 75 = .ok (.iload_n 1, 1) := by decide +kernel
theorem d_m_timeline_76 : decode M_m_timeline.2.1 76 = .ok (.iload 6, 2) := by decide +kernel
theorem d_m_timeline_78 : decode M_m_timeline.2.1 78 = .ok (.invokevirtual 164, 3) := by decide +kernel
theorem d_m_timeline_81 : decode M_m_timeline.2.1 81 = .ok (.ifCond .eq 51, 3) := by decide +kernel
theorem d_m_timeline_84 : decode M_m_timeline.2.1 84 = .ok (.aload_n 0, 1) := by decide +kernel
theorem d_m_timeline_85 : decode M_m_timeline.2.1 85 = .ok (.iload 6, 2) := by decide +kernel
theorem d_m_timeline_87 : decode M_m_timeline.2.1 87 = .ok (.invokevirtual 167, 3) := by decide +kernel
theorem d_m_timeline_90 : decode M_m_timeline.2.1 90 = .ok (.istore 7, 2) := by decide +kernel
theorem d_m_timeline_92 : decode M_m_timeline.2.1 92 = .ok (.iload 5, 2) := by decide +kernel
theorem d_m_timeline_94 : decode M_m_timeline.2.1 94 = .ok (.iload 7, 2) := by decide +kernel
theorem d_m_timeline_96 : decode M_m_timeline.2.1 96 = .ok (.iload 4, 2) := by decide +kernel
theorem d_m_timeline_98 : decode M_m_timeline.2.1 98 = .ok (.if_icmp .lt 26, 3) := by decide +kernel
theorem d_m_timeline_101 : decode M_m_timeline.2.1 101 = .ok (.iload 7, 2) := by decide +kernel
theorem d_m_timeline_103 : decode M_m_timeline.2.1 103 = .ok (.iload 4, 2) := by decide +kernel
theorem d_m_timeline_105 : decode M_m_timeline.2.1 105 = .ok (.if_icmp .ne 23, 3) := by decide +kernel
theorem d_m_timeline_108 : decode M_m_timeline.2.1 108 = .ok (.aload_n 0, 1) := by decide +kernel
theorem d_m_timeline_109 : decode M_m_timeline.2.1 109 = .ok (.getfield 17, 3) := by decide +kernel
theorem d_m_timeline_112 : decode M_m_timeline.2.1 112 = .ok (.iload 6, 2) := by decide +kernel
theorem d_m_timeline_114 : decode M_m_timeline.2.1 114 = .ok (.iaload, 1) := by decide +kernel
theorem d_m_timeline_115 : decode M_m_timeline.2.1 115 = .ok (.aload_n 0, 1) := by decide +kernel
theorem d_m_timeline_116 : decode M_m_timeline.2.1 116 = .ok (.getfield 17, 3) := by decide +kernel
theorem d_m_timeline_119 : decode M_m_timeline.2.1 119 = .ok (.iload_n 3, 1) := by decide +kernel
theorem d_m_timeline_120 : decode M_m_timeline.2.1 120 = .ok (.iaload, 1) := by decide +kernel
theorem d_m_timeline_121 : decode M_m_timeline.2.1 121 = .ok (.if_icmp .ge 7, 3) := by decide +kernel
theorem d_m_timeline_124 : decode M_m_timeline.2.1 124 = .ok (.iconst 1, 1) := by decide +kernel
theorem d_m_timeline_125 : decode M_m_timeline.2.1 125 = .ok (.goto 4, 3) := by decide +kernel
theorem d_m_timeline_128 : decode M_m_timeline.2.1 128 = .ok (.iconst 0, 1) := by decide +kernel
theorem d_m_timeline_129 : decode M_m_timeline.2.1 129 = .ok (.iadd, 1) := by decide +kernel
theorem d_m_timeline_130 : decode M_m_timeline.2.1 130 = .ok (.istore 5, 2) := by decide +kernel
theorem d_m_timeline_132 : decode M_m_timeline.2.1 132 = .ok (.iinc 6 1, 3) := by decide +kernel
theorem d_m_timeline_135 : decode M_m_timeline.2.1 135 = .ok (.goto (-77), 3) := by decide +kernel
theorem d_m_timeline_138 : decode M_m_timeline.2.1 138 = .ok (.iload 5, 2) := by decide +kernel
theorem d_m_timeline_140 : decode M_m_timeline.2.1 140 = .ok (.iload_n 2, 1) := by decide +kernel
theorem d_m_timeline_141 : decode M_m_timeline.2.1 141 = .ok (.if_icmp .ne 10, 3) := by decide +kernel
theorem d_m_timeline_144 : decode M_m_timeline.2.1 144 = .ok (.aload_n 0, 1) := by decide +kernel
theorem d_m_timeline_145 : decode M_m_timeline.2.1 145 = .ok (.getfield 17, 3) := by decide +kernel
theorem d_m_timeline_148 : decode M_m_timeline.2.1 148 = .ok (.iload_n 3, 1) := by decide +kernel
theorem d_m_timeline_149 : decode M_m_timeline.2.1 149 = .ok (.iaload, 1) := by decide +kernel
theorem d_m_timeline_150 : decode M_m_timeline.2.1 150 = .ok (.ireturn, 1) := by decide +kernel
theorem d_m_timeline_151 : decode M_m_timeline.2.1 151 = .ok (.iinc 3 1, 3) := by decide +kernel
theorem d_m_timeline_154 : decode M_m_timeline.2.1 154 = .ok (.goto (-136), 3) := by decide +kernel
theorem d_m_timeline_157 : decode M_m_timeline.2.1 157 = .ok (.iconst (-1), 1) := by decide +kernel
theorem d_m_timeline_158 : decode M_m_timeline.2.1 158 = .ok (.ireturn, 1) := by decide +kernel
end
section
/-! Decode rows. Own work. -/
theorem d_m_timeOf_0 : decode M_m_timeOf.2.1 0 = .ok (.aload_n 0, 1) := by decide +kernel
theorem d_m_timeOf_1 : decode M_m_timeOf.2.1 1 = .ok (.iload_n 1, 1) := by decide +kernel
theorem d_m_timeOf_2 : decode M_m_timeOf.2.1 2 = .ok (.iconst 0, 1) := by decide +kernel
theorem d_m_timeOf_3 : decode M_m_timeOf.2.1 3 = .ok (.invokevirtual 90, 3) := by decide +kernel
theorem d_m_timeOf_6 : decode M_m_timeOf.2.1 6 = .ok (.pop, 1) := by decide +kernel
theorem d_m_timeOf_7 : decode M_m_timeOf.2.1 7 = .ok (.aload_n 0, 1) := by decide +kernel
theorem d_m_timeOf_8 : decode M_m_timeOf.2.1 8 = .ok (.getfield 83, 3) := by decide +kernel
theorem d_m_timeOf_11 : decode M_m_timeOf.2.1 11 = .ok (.ireturn, 1) := by decide +kernel
theorem d_m_children_0 : decode M_m_children.2.1 0 = .ok (.iload_n 1, 1) := by decide +kernel
theorem d_m_children_1 : decode M_m_children.2.1 1 = .ok (.invokestatic 129, 3) := by decide +kernel
theorem d_m_children_4 : decode M_m_children.2.1 4 = .ok (.ifCond .ne 5, 3) := by decide +kernel
theorem d_m_children_7 : decode M_m_children.2.1 7 = .ok (.iconst (-1), 1) := by decide +kernel
theorem d_m_children_8 : decode M_m_children.2.1 8 = .ok (.ireturn, 1) := by decide +kernel
theorem d_m_children_9 : decode M_m_children.2.1 9 = .ok (.iconst 0, 1) := by decide +kernel
theorem d_m_children_10 : decode M_m_children.2.1 10 = .ok (.istore_n 3, 1) := by decide +kernel
theorem d_m_children_11 : decode M_m_children.2.1 11 = .ok (.bipush 32, 2) := by decide +kernel
theorem d_m_children_13 : decode M_m_children.2.1 13 = .ok (.iload_n 1, 1) := by decide +kernel
theorem d_m_children_14 : decode M_m_children.2.1 14 = .ok (.imul, 1) := by decide +kernel
theorem d_m_children_15 : decode M_m_children.2.1 15 = .ok (.istore 4, 2) := by decide +kernel
theorem d_m_children_17 : decode M_m_children.2.1 17 = .ok (.iload 4, 2) := by decide +kernel
theorem d_m_children_19 : decode M_m_children.2.1 19 = .ok (.bipush 32, 2) := by decide +kernel
theorem d_m_children_21 : decode M_m_children.2.1 21 = .ok (.iload_n 1, 1) := by decide +kernel
theorem d_m_children_22 : decode M_m_children.2.1 22 = .ok (.imul, 1) := by decide +kernel
theorem d_m_children_23 : decode M_m_children.2.1 23 = .ok (.aload_n 0, 1) := by decide +kernel
theorem d_m_children_24 : decode M_m_children.2.1 24 = .ok (.getfield 20, 3) := by decide +kernel
theorem d_m_children_27 : decode M_m_children.2.1 27 = .ok (.iload_n 1, 1) := by decide +kernel
theorem d_m_children_28 : decode M_m_children.2.1 28 = .ok (.iaload, 1) := by decide +kernel
theorem d_m_children_29 : decode M_m_children.2.1 29 = .ok (.iadd, 1) := by decide +kernel
theorem d_m_children_30 : decode M_m_children.2.1 30 = .ok (.if_icmp .ge 43, 3) := by decide +kernel
theorem d_m_children_33 : decode M_m_children.2.1 33 = .ok (.iload_n 3, 1) := by decide +kernel
theorem d_m_children_34 : decode M_m_children.2.1 34 = .ok (.iload_n 2, 1) := by decide +kernel
theorem d_m_children_35 : decode M_m_children.2.1 35 = .ok (.ifCond .lt 29, 3) := by decide +kernel
theorem d_m_children_38 : decode M_m_children.2.1 38 = .ok (.aload_n 0, 1) := by decide +kernel
theorem d_m_children_39 : decode M_m_children.2.1 39 = .ok (.iload_n 1, 1) := by decide +kernel
theorem d_m_children_40 : decode M_m_children.2.1 40 = .ok (.iload 4, 2) := by decide +kernel
theorem d_m_children_42 : decode M_m_children.2.1 42 = .ok (.invokevirtual 164, 3) := by decide +kernel
theorem d_m_children_45 : decode M_m_children.2.1 45 = .ok (.ifCond .eq 19, 3) := by decide +kernel
theorem d_m_children_48 : decode M_m_children.2.1 48 = .ok (.aload_n 0, 1) := by decide +kernel
theorem d_m_children_49 : decode M_m_children.2.1 49 = .ok (.iload 4, 2) := by decide +kernel
theorem d_m_children_51 : decode M_m_children.2.1 51 = .ok (.bipush 80, 2) := by decide +kernel
theorem d_m_children_53 : decode M_m_children.2.1 53 = .ok (.iload_n 2, 1) := by decide +kernel
theorem d_m_children_54 : decode M_m_children.2.1 54 = .ok (.invokevirtual 108, 3) := by decide +kernel
theorem d_m_children_57 : decode M_m_children.2.1 57 = .ok (.ifCond .eq 7, 3) := by decide +kernel
theorem d_m_children_60 : decode M_m_children.2.1 60 = .ok (.iconst 1, 1) := by decide +kernel
theorem d_m_children_61 : decode M_m_children.2.1 61 = .ok (.goto 4, 3) := by decide +kernel
theorem d_m_children_64 : decode M_m_children.2.1 64 = .ok (.iconst 0, 1) := by decide +kernel
theorem d_m_children_65 : decode M_m_children.2.1 65 = .ok (.iadd, 1) := by decide +kernel
theorem d_m_children_66 : decode M_m_children.2.1 66 = .ok (.istore_n 3, 1) := by decide +kernel
theorem d_m_children_67 : decode M_m_children.2.1 67 = .ok (.iinc 4 1, 3) := by decide +kernel
theorem d_m_children_70 : decode M_m_children.2.1 70 = .ok (.goto (-53), 3) := by decide +kernel
theorem d_m_children_73 : decode M_m_children.2.1 73 = .ok (.iload_n 3, 1) := by decide +kernel
theorem d_m_children_74 : decode M_m_children.2.1 74 = .ok (.ireturn, 1) := by decide +kernel
theorem d_m_leaves_0 : decode M_m_leaves.2.1 0 = .ok (.iload_n 1, 1) := by decide +kernel
theorem d_m_leaves_1 : decode M_m_leaves.2.1 1 = .ok (.invokestatic 129, 3) := by decide +kernel
theorem d_m_leaves_4 : decode M_m_leaves.2.1 4 = .ok (.ifCond .ne 5, 3) := by decide +kernel
theorem d_m_leaves_7 : decode M_m_leaves.2.1 7 = .ok (.iconst (-1), 1) := by decide +kernel
theorem d_m_leaves_8 : decode M_m_leaves.2.1 8 = .ok (.ireturn, 1) := by decide +kernel
theorem d_m_leaves_9 : decode M_m_leaves.2.1 9 = .ok (.iconst 0, 1) := by decide +kernel
theorem d_m_leaves_10 : decode M_m_leaves.2.1 10 = .ok (.istore_n 2, 1) := by decide +kernel
theorem d_m_leaves_11 : decode M_m_leaves.2.1 11 = .ok (.bipush 32, 2) := by decide +kernel
theorem d_m_leaves_13 : decode M_m_leaves.2.1 13 = .ok (.iload_n 1, 1) := by decide +kernel
theorem d_m_leaves_14 : decode M_m_leaves.2.1 14 = .ok (.imul, 1) := by decide +kernel
theorem d_m_leaves_15 : decode M_m_leaves.2.1 15 = .ok (.istore_n 3, 1) := by decide +kernel
theorem d_m_leaves_16 : decode M_m_leaves.2.1 16 = .ok (.iload_n 3, 1) := by decide +kernel
theorem d_m_leaves_17 : decode M_m_leaves.2.1 17 = .ok (.bipush 32, 2) := by decide +kernel
theorem d_m_leaves_19 : decode M_m_leaves.2.1 19 = .ok (.iload_n 1, 1) := by decide +kernel
theorem d_m_leaves_20 : decode M_m_leaves.2.1 20 = .ok (.imul, 1) := by decide +kernel
theorem d_m_leaves_21 : decode M_m_leaves.2.1 21 = .ok (.aload_n 0, 1) := by decide +kernel
theorem d_m_leaves_22 : decode M_m_leaves.2.1 22 = .ok (.getfield 20, 3) := by decide +kernel
theorem d_m_leaves_25 : decode M_m_leaves.2.1 25 = .ok (.iload_n 1, 1) := by decide +kernel
theorem d_m_leaves_26 : decode M_m_leaves.2.1 26 = .ok (.iaload, 1) := by decide +kernel
theorem d_m_leaves_27 : decode M_m_leaves.2.1 27 = .ok (.iadd, 1) := by decide +kernel
theorem d_m_leaves_28 : decode M_m_leaves.2.1 28 = .ok (.if_icmp .ge 40, 3) := by decide +kernel
theorem d_m_leaves_31 : decode M_m_leaves.2.1 31 = .ok (.iload_n 2, 1) := by decide +kernel
theorem d_m_leaves_32 : decode M_m_leaves.2.1 32 = .ok (.aload_n 0, 1) := by decide +kernel
theorem d_m_leaves_33 : decode M_m_leaves.2.1 33 = .ok (.iload_n 1, 1) := by decide +kernel
theorem d_m_leaves_34 : decode M_m_leaves.2.1 34 = .ok (.iload_n 3, 1) := by decide +kernel
theorem d_m_leaves_35 : decode M_m_leaves.2.1 35 = .ok (.invokevirtual 164, 3) := by decide +kernel
theorem d_m_leaves_38 : decode M_m_leaves.2.1 38 = .ok (.ifCond .eq 21, 3) := by decide +kernel
theorem d_m_leaves_41 : decode M_m_leaves.2.1 41 = .ok (.aload_n 0, 1) := by decide +kernel
theorem d_m_leaves_42 : decode M_m_leaves.2.1 42 = .ok (.iload_n 1, 1) := by decide +kernel
theorem d_m_leaves_43 : decode M_m_leaves.2.1 43 = .ok (.aload_n 0, 1) := by decide +kernel
theorem d_m_leaves_44 : decode M_m_leaves.2.1 44 = .ok (.getfield 17, 3) := by decide +kernel
theorem d_m_leaves_47 : decode M_m_leaves.2.1 47 = .ok (.iload_n 3, 1) := by decide +kernel
theorem d_m_leaves_48 : decode M_m_leaves.2.1 48 = .ok (.iaload, 1) := by decide +kernel
theorem d_m_leaves_49 : decode M_m_leaves.2.1 49 = .ok (.invokevirtual 170, 3) := by decide +kernel
theorem d_m_leaves_52 : decode M_m_leaves.2.1 52 = .ok (.ifCond .ne 7, 3) := by decide +kernel
theorem d_m_leaves_55 : decode M_m_leaves.2.1 55 = .ok (.iconst 1, 1) := by decide +kernel
theorem d_m_leaves_56 : decode M_m_leaves.2.1 56 = .ok (.goto 4, 3) := by decide +kernel
theorem d_m_leaves_59 : decode M_m_leaves.2.1 59 = .ok (.iconst 0, 1) := by decide +kernel
theorem d_m_leaves_60 : decode M_m_leaves.2.1 60 = .ok (.iadd, 1) := by decide +kernel
theorem d_m_leaves_61 : decode M_m_leaves.2.1 61 = .ok (.istore_n 2, 1) := by decide +kernel
theorem d_m_leaves_62 : decode M_m_leaves.2.1 62 = .ok (.iinc 3 1, 3) := by decide +kernel
theorem d_m_leaves_65 : decode M_m_leaves.2.1 65 = .ok (.goto (-49), 3) := by decide +kernel
theorem d_m_leaves_68 : decode M_m_leaves.2.1 68 = .ok (.iload_n 2, 1) := by decide +kernel
theorem d_m_leaves_69 : decode M_m_leaves.2.1 69 = .ok (.ireturn, 1) := by decide +kernel
theorem d_m_tag_0 : decode M_m_tag.2.1 0 = .ok (.iload_n 1, 1) := by decide +kernel
theorem d_m_tag_1 : decode M_m_tag.2.1 1 = .ok (.invokestatic 129, 3) := by decide +kernel
theorem d_m_tag_4 : decode M_m_tag.2.1 4 = .ok (.ifCond .eq 13, 3) := by decide +kernel
theorem d_m_tag_7 : decode M_m_tag.2.1 7 = .ok (.iload_n 3, 1) := by decide +kernel
theorem d_m_tag_8 : decode M_m_tag.2.1 8 = .ok (.ifCond .lt 9, 3) := by decide +kernel
theorem d_m_tag_11 : decode M_m_tag.2.1 11 = .ok (.iload_n 3, 1) := by decide +kernel
theorem d_m_tag_12 : decode M_m_tag.2.1 12 = .ok (.bipush 9, 2) := by decide +kernel
theorem d_m_tag_14 : decode M_m_tag.2.1 14 = .ok (.if_icmp .le 5, 3) := by decide +kernel
theorem d_m_tag_17 : decode M_m_tag.2.1 17 = .ok (.iconst (-1), 1) := by decide +kernel
theorem d_m_tag_18 : decode M_m_tag.2.1 18 = .ok (.ireturn, 1) := by decide +kernel
theorem d_m_tag_19 : decode M_m_tag.2.1 19 = .ok (.iconst (-1), 1) := by decide +kernel
theorem d_m_tag_20 : decode M_m_tag.2.1 20 = .ok (.istore 4, 2) := by decide +kernel
theorem d_m_tag_22 : decode M_m_tag.2.1 22 = .ok (.iconst (-1), 1) := by decide +kernel
theorem d_m_tag_23 : decode M_m_tag.2.1 23 = .ok (.istore 5, 2) := by decide +kernel
theorem d_m_tag_25 : decode M_m_tag.2.1 25 = .ok (.iconst (-1), 1) := by decide +kernel
theorem d_m_tag_26 : decode M_m_tag.2.1 26 = .ok (.istore 6, 2) := by decide +kernel
theorem d_m_tag_28 : decode M_m_tag.2.1 28 = .ok (.bipush 32, 2) := by decide +kernel
theorem d_m_tag_30 : decode M_m_tag.2.1 30 = .ok (.iload_n 1, 1) := by decide +kernel
theorem d_m_tag_31 : decode M_m_tag.2.1 31 = .ok (.imul, 1) := by decide +kernel
theorem d_m_tag_32 : decode M_m_tag.2.1 32 = .ok (.istore 7, 2) := by decide +kernel
theorem d_m_tag_34 : decode M_m_tag.2.1 34 = .ok (.iload 7, 2) := by decide +kernel
theorem d_m_tag_36 : decode M_m_tag.2.1 36 = .ok (.bipush 32, 2) := by decide +kernel
theorem d_m_tag_38 : decode M_m_tag.2.1 38 = .ok (.iload_n 1, 1) := by decide +kernel
theorem d_m_tag_39 : decode M_m_tag.2.1 39 = .ok (.imul, 1) := by decide +kernel
theorem d_m_tag_40 : decode M_m_tag.2.1 40 = .ok (.aload_n 0, 1) := by decide +kernel
theorem d_m_tag_41 : decode M_m_tag.2.1 41 = .ok (.getfield 20, 3) := by decide +kernel
theorem d_m_tag_44 : decode M_m_tag.2.1 44 = .ok (.iload_n 1, 1) := by decide +kernel
theorem d_m_tag_45 : decode M_m_tag.2.1 45 = .ok (.iaload, 1) := by decide +kernel
theorem d_m_tag_46 : decode M_m_tag.2.1 46 = .ok (.iadd, 1) := by decide +kernel
theorem d_m_tag_47 : decode M_m_tag.2.1 47 = .ok (.if_icmp .ge 134, 3) := by decide +kernel
theorem d_m_tag_50 : decode M_m_tag.2.1 50 = .ok (.aload_n 0, 1) := by decide +kernel
theorem d_m_tag_51 : decode M_m_tag.2.1 51 = .ok (.iload 7, 2) := by decide +kernel
theorem d_m_tag_53 : decode M_m_tag.2.1 53 = .ok (.invokevirtual 101, 3) := by decide +kernel
theorem d_m_tag_56 : decode M_m_tag.2.1 56 = .ok (.istore 8, 2) := by decide +kernel
theorem d_m_tag_58 : decode M_m_tag.2.1 58 = .ok (.iload 8, 2) := by decide +kernel
theorem d_m_tag_60 : decode M_m_tag.2.1 60 = .ok (.iconst 2, 1) := by decide +kernel
theorem d_m_tag_61 : decode M_m_tag.2.1 61 = .ok (.if_icmp .ne 18, 3) := by decide +kernel
theorem d_m_tag_64 : decode M_m_tag.2.1 64 = .ok (.iload_n 2, 1) := by decide +kernel
theorem d_m_tag_65 : decode M_m_tag.2.1 65 = .ok (.ifCond .lt 14, 3) := by decide +kernel
theorem d_m_tag_68 : decode M_m_tag.2.1 68 = .ok (.aload_n 0, 1) := by decide +kernel
theorem d_m_tag_69 : decode M_m_tag.2.1 69 = .ok (.iload 7, 2) := by decide +kernel
theorem d_m_tag_71 : decode M_m_tag.2.1 71 = .ok (.iload_n 3, 1) := by decide +kernel
theorem d_m_tag_72 : decode M_m_tag.2.1 72 = .ok (.iload_n 2, 1) := by decide +kernel
theorem d_m_tag_73 : decode M_m_tag.2.1 73 = .ok (.invokevirtual 173, 3) := by decide +kernel
theorem d_m_tag_76 : decode M_m_tag.2.1 76 = .ok (.goto 32, 3) := by decide +kernel
theorem d_m_tag_79 : decode M_m_tag.2.1 79 = .ok (.iload 8, 2) := by decide +kernel
theorem d_m_tag_81 : decode M_m_tag.2.1 81 = .ok (.iconst 1, 1) := by decide +kernel
theorem d_m_tag_82 : decode M_m_tag.2.1 82 = .ok (.if_icmp .ne 25, 3) := by decide +kernel
theorem d_m_tag_85 : decode M_m_tag.2.1 85 = .ok (.aload_n 0, 1) := by decide +kernel
theorem d_m_tag_86 : decode M_m_tag.2.1 86 = .ok (.getfield 17, 3) := by decide +kernel
theorem d_m_tag_89 : decode M_m_tag.2.1 89 = .ok (.iload 7, 2) := by decide +kernel
theorem d_m_tag_91 : decode M_m_tag.2.1 91 = .ok (.iaload, 1) := by decide +kernel
theorem d_m_tag_92 : decode M_m_tag.2.1 92 = .ok (.iload_n 2, 1) := by decide +kernel
theorem d_m_tag_93 : decode M_m_tag.2.1 93 = .ok (.if_icmp .ne 14, 3) := by decide +kernel
theorem d_m_tag_96 : decode M_m_tag.2.1 96 = .ok (.aload_n 0, 1) := by decide +kernel
theorem d_m_tag_97 : decode M_m_tag.2.1 97 = .ok (.iload 7, 2) := by decide +kernel
theorem d_m_tag_99 : decode M_m_tag.2.1 99 = .ok (.iload_n 3, 1) := by decide +kernel
theorem d_m_tag_100 : decode M_m_tag.2.1 100 = .ok (.iconst (-1), 1) := by decide +kernel
theorem d_m_tag_101 : decode M_m_tag.2.1 101 = .ok (.invokevirtual 173, 3) := by decide +kernel
theorem d_m_tag_104 : decode M_m_tag.2.1 104 = .ok (.goto 4, 3) := by decide +kernel
theorem d_m_tag_107 : decode M_m_tag.2.1 107 = .ok (.iconst (-1), 1) := by decide +kernel
theorem d_m_tag_108 : decode M_m_tag.2.1 108 = .ok (.istore 9, 2) := by decide +kernel
theorem d_m_tag_110 : decode M_m_tag.2.1 110 = .ok (.iload 9, 2) := by decide +kernel
theorem d_m_tag_112 : decode M_m_tag.2.1 112 = .ok (.ifCond .ge 7, 3) := by decide +kernel
theorem d_m_tag_115 : decode M_m_tag.2.1 115 = .ok (.iconst (-1), 1) := by decide +kernel
theorem d_m_tag_116 : decode M_m_tag.2.1 116 = .ok (.goto 9, 3) := by decide +kernel
theorem d_m_tag_119 : decode M_m_tag.2.1 119 = .ok (.aload_n 0, 1) := by decide +kernel
theorem d_m_tag_120 : decode M_m_tag.2.1 120 = .ok (.iload 7, 2) := by decide +kernel
theorem d_m_tag_122 : decode M_m_tag.2.1 122 = .ok (.invokevirtual 167, 3) := by decide +kernel
theorem d_m_tag_125 : decode M_m_tag.2.1 125 = .ok (.istore 10, 2) := by decide +kernel
theorem d_m_tag_127 : decode M_m_tag.2.1 127 = .ok (.iload 9, 2) := by decide +kernel
theorem d_m_tag_129 : decode M_m_tag.2.1 129 = .ok (.ifCond .lt 46, 3) := by decide +kernel
theorem d_m_tag_132 : decode M_m_tag.2.1 132 = .ok (.iload 10, 2) := by decide +kernel
theorem d_m_tag_134 : decode M_m_tag.2.1 134 = .ok (.iload 5, 2) := by decide +kernel
theorem d_m_tag_136 : decode M_m_tag.2.1 136 = .ok (.if_icmp .gt 22, 3) := by decide +kernel
theorem d_m_tag_139 : decode M_m_tag.2.1 139 = .ok (.iload 10, 2) := by decide +kernel
theorem d_m_tag_141 : decode M_m_tag.2.1 141 = .ok (.iload 5, 2) := by decide +kernel
theorem d_m_tag_143 : decode M_m_tag.2.1 143 = .ok (.if_icmp .ne 32, 3) := by decide +kernel
theorem d_m_tag_146 : decode M_m_tag.2.1 146 = .ok (.aload_n 0, 1) := by decide +kernel
theorem d_m_tag_147 : decode M_m_tag.2.1 147 = .ok (.getfield 17, 3) := by decide +kernel
theorem d_m_tag_150 : decode M_m_tag.2.1 150 = .ok (.iload 7, 2) := by decide +kernel
theorem d_m_tag_152 : decode M_m_tag.2.1 152 = .ok (.iaload, 1) := by decide +kernel
theorem d_m_tag_153 : decode M_m_tag.2.1 153 = .ok (.iload 6, 2) := by decide +kernel
theorem d_m_tag_155 : decode M_m_tag.2.1 155 = .ok (.if_icmp .le 20, 3) := by decide +kernel
theorem d_m_tag_158 : decode M_m_tag.2.1 158 = .ok (.iload 9, 2) := by decide +kernel
theorem d_m_tag_160 : decode M_m_tag.2.1 160 = .ok (.istore 4, 2) := by decide +kernel
theorem d_m_tag_162 : decode M_m_tag.2.1 162 = .ok (.iload 10, 2) := by decide +kernel
theorem d_m_tag_164 : decode M_m_tag.2.1 164 = .ok (.istore 5, 2) := by decide +kernel
theorem d_m_tag_166 : decode M_m_tag.2.1 166 = .ok (.aload_n 0, 1) := by decide +kernel
theorem d_m_tag_167 : decode M_m_tag.2.1 167 = .ok (.getfield 17, 3) := by decide +kernel
theorem d_m_tag_170 : decode M_m_tag.2.1 170 = .ok (.iload 7, 2) := by decide +kernel
theorem d_m_tag_172 : decode M_m_tag.2.1 172 = .ok (.iaload, 1) := by decide +kernel
theorem d_m_tag_173 : decode M_m_tag.2.1 173 = .ok (.istore 6, 2) := by decide +kernel
theorem d_m_tag_175 : decode M_m_tag.2.1 175 = .ok (.iinc 7 1, 3) := by decide +kernel
theorem d_m_tag_178 : decode M_m_tag.2.1 178 = .ok (.goto (-144), 3) := by decide +kernel
theorem d_m_tag_181 : decode M_m_tag.2.1 181 = .ok (.iload 4, 2) := by decide +kernel
theorem d_m_tag_183 : decode M_m_tag.2.1 183 = .ok (.ireturn, 1) := by decide +kernel
theorem d_m_signOf_0 : decode M_m_signOf.2.1 0 = .ok (.iconst (-1), 1) := by decide +kernel
theorem d_m_signOf_1 : decode M_m_signOf.2.1 1 = .ok (.istore 4, 2) := by decide +kernel
theorem d_m_signOf_3 : decode M_m_signOf.2.1 3 = .ok (.iconst 0, 1) := by decide +kernel
theorem d_m_signOf_4 : decode M_m_signOf.2.1 4 = .ok (.istore 5, 2) := by decide +kernel
theorem d_m_signOf_6 : decode M_m_signOf.2.1 6 = .ok (.iload 5, 2) := by decide +kernel
theorem d_m_signOf_8 : decode M_m_signOf.2.1 8 = .ok (.aload_n 0, 1) := by decide +kernel
theorem d_m_signOf_9 : decode M_m_signOf.2.1 9 = .ok (.getfield 13, 3) := by decide +kernel
theorem d_m_signOf_12 : decode M_m_signOf.2.1 12 = .ok (.iload_n 1, 1) := by decide +kernel
theorem d_m_signOf_13 : decode M_m_signOf.2.1 13 = .ok (.iaload, 1) := by decide +kernel
theorem d_m_signOf_14 : decode M_m_signOf.2.1 14 = .ok (.if_icmp .ge 61, 3) := by decide +kernel
theorem d_m_signOf_17 : decode M_m_signOf.2.1 17 = .ok (.aload_n 0, 1) := by decide +kernel
theorem d_m_signOf_18 : decode M_m_signOf.2.1 18 = .ok (.iload_n 1, 1) := by decide +kernel
theorem d_m_signOf_19 : decode M_m_signOf.2.1 19 = .ok (.iload 5, 2) := by decide +kernel
theorem d_m_signOf_21 : decode M_m_signOf.2.1 21 = .ok (.invokevirtual 90, 3) := by decide +kernel
theorem d_m_signOf_24 : decode M_m_signOf.2.1 24 = .ok (.ifCond .eq 51, 3) := by decide +kernel
theorem d_m_signOf_27 : decode M_m_signOf.2.1 27 = .ok (.aload_n 0, 1) := by decide +kernel
theorem d_m_signOf_28 : decode M_m_signOf.2.1 28 = .ok (.getfield 51, 3) := by decide +kernel
theorem d_m_signOf_31 : decode M_m_signOf.2.1 31 = .ok (.istore 5, 2) := by decide +kernel
theorem d_m_signOf_33 : decode M_m_signOf.2.1 33 = .ok (.aload_n 0, 1) := by decide +kernel
theorem d_m_signOf_34 : decode M_m_signOf.2.1 34 = .ok (.getfield 47, 3) := by decide +kernel
theorem d_m_signOf_37 : decode M_m_signOf.2.1 37 = .ok (.bipush 84, 2) := by decide +kernel
theorem d_m_signOf_39 : decode M_m_signOf.2.1 39 = .ok (.if_icmp .ne (-33), 3) := by decide +kernel
theorem d_m_signOf_42 : decode M_m_signOf.2.1 42 = .ok (.aload_n 0, 1) := by decide +kernel
theorem d_m_signOf_43 : decode M_m_signOf.2.1 43 = .ok (.getfield 74, 3) := by decide +kernel
theorem d_m_signOf_46 : decode M_m_signOf.2.1 46 = .ok (.iload_n 2, 1) := by decide +kernel
theorem d_m_signOf_47 : decode M_m_signOf.2.1 47 = .ok (.if_icmp .ne (-41), 3) := by decide +kernel
theorem d_m_signOf_50 : decode M_m_signOf.2.1 50 = .ok (.aload_n 0, 1) := by decide +kernel
theorem d_m_signOf_51 : decode M_m_signOf.2.1 51 = .ok (.getfield 58, 3) := by decide +kernel
theorem d_m_signOf_54 : decode M_m_signOf.2.1 54 = .ok (.iload_n 3, 1) := by decide +kernel
theorem d_m_signOf_55 : decode M_m_signOf.2.1 55 = .ok (.if_icmp .ne (-49), 3) := by decide +kernel
theorem d_m_signOf_58 : decode M_m_signOf.2.1 58 = .ok (.aload_n 0, 1) := by decide +kernel
theorem d_m_signOf_59 : decode M_m_signOf.2.1 59 = .ok (.getfield 86, 3) := by decide +kernel
theorem d_m_signOf_62 : decode M_m_signOf.2.1 62 = .ok (.ifCond .eq 7, 3) := by decide +kernel
theorem d_m_signOf_65 : decode M_m_signOf.2.1 65 = .ok (.iconst 1, 1) := by decide +kernel
theorem d_m_signOf_66 : decode M_m_signOf.2.1 66 = .ok (.goto 4, 3) := by decide +kernel
theorem d_m_signOf_69 : decode M_m_signOf.2.1 69 = .ok (.iconst 0, 1) := by decide +kernel
theorem d_m_signOf_70 : decode M_m_signOf.2.1 70 = .ok (.istore 4, 2) := by decide +kernel
theorem d_m_signOf_72 : decode M_m_signOf.2.1 72 = .ok (.goto (-66), 3) := by decide +kernel
theorem d_m_signOf_75 : decode M_m_signOf.2.1 75 = .ok (.iload 4, 2) := by decide +kernel
theorem d_m_signOf_77 : decode M_m_signOf.2.1 77 = .ok (.ireturn, 1) := by decide +kernel
theorem d_m_loose_0 : decode M_m_loose.2.1 0 = .ok (.iload_n 1, 1) := by decide +kernel
theorem d_m_loose_1 : decode M_m_loose.2.1 1 = .ok (.invokestatic 129, 3) := by decide +kernel
theorem d_m_loose_4 : decode M_m_loose.2.1 4 = .ok (.ifCond .ne 5, 3) := by decide +kernel
theorem d_m_loose_7 : decode M_m_loose.2.1 7 = .ok (.iconst (-1), 1) := by decide +kernel
theorem d_m_loose_8 : decode M_m_loose.2.1 8 = .ok (.ireturn, 1) := by decide +kernel
theorem d_m_loose_9 : decode M_m_loose.2.1 9 = .ok (.aload_n 0, 1) := by decide +kernel
theorem d_m_loose_10 : decode M_m_loose.2.1 10 = .ok (.iload_n 1, 1) := by decide +kernel
theorem d_m_loose_11 : decode M_m_loose.2.1 11 = .ok (.invokevirtual 149, 3) := by decide +kernel
theorem d_m_loose_14 : decode M_m_loose.2.1 14 = .ok (.aload_n 0, 1) := by decide +kernel
theorem d_m_loose_15 : decode M_m_loose.2.1 15 = .ok (.getfield 136, 3) := by decide +kernel
theorem d_m_loose_18 : decode M_m_loose.2.1 18 = .ok (.ireturn, 1) := by decide +kernel
theorem d_m_rebuild_0 : decode M_m_rebuild.2.1 0 = .ok (.iload_n 1, 1) := by decide +kernel
theorem d_m_rebuild_1 : decode M_m_rebuild.2.1 1 = .ok (.invokestatic 129, 3) := by decide +kernel
theorem d_m_rebuild_4 : decode M_m_rebuild.2.1 4 = .ok (.ifCond .ne 5, 3) := by decide +kernel
theorem d_m_rebuild_7 : decode M_m_rebuild.2.1 7 = .ok (.iconst (-1), 1) := by decide +kernel
theorem d_m_rebuild_8 : decode M_m_rebuild.2.1 8 = .ok (.ireturn, 1) := by decide +kernel
theorem d_m_rebuild_9 : decode M_m_rebuild.2.1 9 = .ok (.aload_n 0, 1) := by decide +kernel
theorem d_m_rebuild_10 : decode M_m_rebuild.2.1 10 = .ok (.getfield 26, 3) := by decide +kernel
theorem d_m_rebuild_13 : decode M_m_rebuild.2.1 13 = .ok (.iload_n 1, 1) := by decide +kernel
theorem d_m_rebuild_14 : decode M_m_rebuild.2.1 14 = .ok (.iconst 0, 1) := by decide +kernel
theorem d_m_rebuild_15 : decode M_m_rebuild.2.1 15 = .ok (.iastore, 1) := by decide +kernel
theorem d_m_rebuild_16 : decode M_m_rebuild.2.1 16 = .ok (.aload_n 0, 1) := by decide +kernel
theorem d_m_rebuild_17 : decode M_m_rebuild.2.1 17 = .ok (.iload_n 1, 1) := by decide +kernel
theorem d_m_rebuild_18 : decode M_m_rebuild.2.1 18 = .ok (.invokevirtual 176, 3) := by decide +kernel
theorem d_m_rebuild_21 : decode M_m_rebuild.2.1 21 = .ok (.ireturn, 1) := by decide +kernel
end
section
/-! Pure words: bytes (numbers below 256), digests, names, cards. A line is a function g from its places and a length n. Own work. -/
def dgs (d b : Nat) : Nat := (257 * d + b + 1) % 16777213
def dg (d : Nat) (bs : List Nat) : Nat := bs.foldl dgs d
theorem dgs_lt (d b : Nat) : dgs d b < 16777213 := Nat.mod_lt _ (by decide)
theorem dg_lt {d : Nat} (h : d < 16777213) (bs : List Nat) : dg d bs < 16777213 := by
  induction bs generalizing d with
  | nil => exact h
  | cons b t ih => exact ih (dgs_lt d b)
theorem dg_snoc (d : Nat) (bs : List Nat) (b : Nat) : dg d (bs ++ [b]) = dgs (dg d bs) b := by simp [dg]
theorem dg_app (d : Nat) (a b : List Nat) : dg d (a ++ b) = dg (dg d a) b := by simp [dg]
theorem dg_take_succ {bs : List Nat} {j : Nat} (d : Nat) (h : j < bs.length) : dg d (bs.take (j + 1)) = (257 * dg d (bs.take j) + bs.getD j 0 + 1) % 16777213 := by
  rw [List.take_add_one, show bs[j]? = some (bs.getD j 0) by rw [List.getD_eq_getElem?_getD, List.getElem?_eq_getElem h]; rfl]
  rw [show (some (bs.getD j 0)).toList = [bs.getD j 0] from rfl, dg_snoc]
  rfl
def gB (bs : List Nat) (k : Nat) : Nat → Nat := fun i => bs.getD (k + i) 0
/-- c letters from place k on -/
def nmF (g : Nat → Nat) : Nat → Nat → Nat → Option Nat
  | _, 0, v => some v
  | k, c + 1, v => if 97 ≤ g k ∧ g k ≤ 112 then nmF g (k + 1) c (16 * v + (g k - 97)) else none
def nm6 (g : Nat → Nat) (k : Nat) : Option Nat := nmF g k 6 0
theorem nmF_lt (g : Nat → Nat) : ∀ (c k v w : Nat), nmF g k c v = some w → w < 16 ^ c * (v + 1) := by
  intro c
  induction c with
  | zero => intro k v w h; simp [nmF] at h; omega
  | succ c ih =>
    intro k v w h
    simp only [nmF] at h
    split at h
    next hb =>
      have h1 := ih _ _ _ h
      have h2 : 16 * v + (g k - 97) + 1 ≤ 16 * (v + 1) := by omega
      calc w < 16 ^ c * (16 * v + (g k - 97) + 1) := h1
        _ ≤ 16 ^ c * (16 * (v + 1)) := Nat.mul_le_mul_left _ h2
        _ = 16 ^ (c + 1) * (v + 1) := by rw [Nat.pow_succ, Nat.mul_assoc]
    next => cases h
theorem nm6_lt {g : Nat → Nat} {k w : Nat} (h : nm6 g k = some w) : w < 16777216 := by
  have := nmF_lt g 6 k 0 w h
  omega
def isDg (b : Nat) : Bool := decide (48 ≤ b) && decide (b ≤ 57)
/-- are c places from k on digits; their number -/
def dgF (g : Nat → Nat) : Nat → Nat → Bool
  | _, 0 => true
  | k, c + 1 => isDg (g k) && dgF g (k + 1) c
def nuF (g : Nat → Nat) : Nat → Nat → Nat → Nat
  | _, 0, v => v
  | k, c + 1, v => nuF g (k + 1) c (10 * v + (g k - 48))
/-- a card: letter, digit, plus, first name, second name, number -/
abbrev CV : Type := Nat × Nat × Bool × Option Nat × Option Nat × Nat
def cardD (g : Nat → Nat) (n : Nat) : Option CV := if n ≤ 6 ∧ ¬ (3 < n ∧ g 2 = 48) ∧ dgF g 2 (n - 2) = true then some (68, 0, false, none, none, nuF g 2 (n - 2) 0) else none
def card1 (g : Nat → Nat) (n : Nat) : Option CV := if n = 8 then (nm6 g 2).map fun v => (g 0, 0, false, some v, none, 0) else none
def cardF (g : Nat → Nat) (n : Nat) : Option CV := if n = 10 ∧ g 3 = 32 ∧ isDg (g 2) = true then (nm6 g 4).map fun v => (70, g 2 - 48, false, some v, none, 0) else none
def cardP (g : Nat → Nat) (n : Nat) : Option CV :=
  if n = 8 then (nm6 g 2).map fun v => (80, 0, false, some v, none, 0)
  else if n = 15 ∧ g 8 = 32 then (nm6 g 2).bind fun a => (nm6 g 9).bind fun b => if a = b then none else some (80, 0, false, some a, some b, 0)
  else none
def cardT (g : Nat → Nat) (n : Nat) : Option CV :=
  if (n = 6 ∨ n = 11) ∧ (g 2 = 43 ∨ g 2 = 45) ∧ isDg (g 3) = true ∧ g 4 = 32 then
    (if n = 6 then (if g 5 = 42 then some (84, g 3 - 48, decide (g 2 = 43), none, none, 0) else none)
     else (nm6 g 5).map fun v => (84, g 3 - 48, decide (g 2 = 43), some v, none, 0)) else none
def cardB (g : Nat → Nat) (n : Nat) : Option CV :=
  if g 0 = 68 then cardD g n
  else if g 0 = 77 ∨ g 0 = 82 ∨ g 0 = 90 then card1 g n
  else if g 0 = 70 then cardF g n
  else if g 0 = 80 then cardP g n
  else if g 0 = 84 then cardT g n
  else none
def cardG (g : Nat → Nat) (n : Nat) : Option CV := if 3 ≤ n ∧ g 1 = 32 then cardB g n else none
/-- a number that may be none: -1 -/
def oI (r : Option Nat) : Int32 := match r with
  | none => -1
  | some v => nI v
theorem oI_neg : oI none < 0 := by decide
theorem oI_pos {v : Nat} (h : v < 2 ^ 31) : ¬ oI (some v) < 0 := nI_pos h
def zb (b : Bool) : Int32 := if b then nI 1 else nI 0
theorem zb_nar (b : Bool) : narrow .boolean (.int (zb b)) = .int (zb b) := by cases b <;> decide
theorem zb_0 {b : Bool} : zb b = 0 ↔ b = false := by cases b <;> decide
section ZB
variable {l : Launch} {D : zD} {M : zM} {mc ms : Nat} {Q : Option Value → zH → Prop} {hp : zH} {cu su pc : Nat} {lv : List (Option Value)} {rest : List Value}
theorem z_if_eqB {b : Bool} {off : Int} {tgt : Nat} (hd : decode M.2.1 pc = .ok (.ifCond .eq off, 3)) (pc' : Nat) (he : pc + 3 = pc') (ht : (pc : Int) + off = (tgt : Int)) (kt : b = false → Z l D M mc ms Q hp cu su tgt lv rest) (kf : b = true → Z l D M mc ms Q hp cu su pc' lv rest) : Z l D M mc ms Q hp cu su pc lv (.int (zb b) :: rest) :=
  z_if_eq hd pc' he ht (fun h => kt (zb_0.1 h)) (fun h => kf (by cases b with | true => rfl | false => exact absurd (zb_0.2 rfl) h))
theorem z_if_neB {b : Bool} {off : Int} {tgt : Nat} (hd : decode M.2.1 pc = .ok (.ifCond .ne off, 3)) (pc' : Nat) (he : pc + 3 = pc') (ht : (pc : Int) + off = (tgt : Int)) (kt : b = true → Z l D M mc ms Q hp cu su tgt lv rest) (kf : b = false → Z l D M mc ms Q hp cu su pc' lv rest) : Z l D M mc ms Q hp cu su pc lv (.int (zb b) :: rest) :=
  z_if_ne hd pc' he ht (fun h => kt (by cases b with | true => rfl | false => exact absurd (zb_0.2 rfl) h)) (fun h => kf (zb_0.1 h))
theorem z_zretB {b : Bool} (hd : decode M.2.1 pc = .ok (.ireturn, 1)) (hr : M.2.2.2.1 = some .boolean) (hcu : cu ≤ mc) (hsu : su ≤ ms) (hq : Q (some (.int (zb b))) hp) : Z l D M mc ms Q hp cu su pc lv [.int (zb b)] :=
  z_zret hd hr (zb_nar b) hcu hsu hq
/-- a number that may be none, held against 0 -/
theorem z_if_ltO {r : Option Nat} {off : Int} {tgt : Nat} (hd : decode M.2.1 pc = .ok (.ifCond .lt off, 3)) (pc' : Nat) (he : pc + 3 = pc') (ht : (pc : Int) + off = (tgt : Int)) (hb : ∀ v, r = some v → v < 2 ^ 31) (kt : r = none → Z l D M mc ms Q hp cu su tgt lv rest) (kf : ∀ v, r = some v → Z l D M mc ms Q hp cu su pc' lv rest) : Z l D M mc ms Q hp cu su pc lv (.int (oI r) :: rest) :=
  z_if_lt hd pc' he ht (fun h => kt (by cases r with | none => rfl | some v => exact absurd h (oI_pos (hb v rfl)))) (fun h => by cases r with | none => exact absurd oI_neg h | some v => exact kf v rfl)
theorem z_if_geO {r : Option Nat} {off : Int} {tgt : Nat} (hd : decode M.2.1 pc = .ok (.ifCond .ge off, 3)) (pc' : Nat) (he : pc + 3 = pc') (ht : (pc : Int) + off = (tgt : Int)) (hb : ∀ v, r = some v → v < 2 ^ 31) (kt : ∀ v, r = some v → Z l D M mc ms Q hp cu su tgt lv rest) (kf : r = none → Z l D M mc ms Q hp cu su pc' lv rest) : Z l D M mc ms Q hp cu su pc lv (.int (oI r) :: rest) :=
  z_if_ge hd pc' he ht (fun h => by cases r with | none => exact absurd h (by decide) | some v => exact kt v rfl) (fun h => kf (by cases r with | none => rfl | some v => exact absurd (nI_pos' (hb v rfl)) h))
end ZB
end
section
/-! The reference: at, digest, names and digits. Own work. -/
def zrow (va : Nat → Nat → Int32) (s : Nat) (bs : List Nat) : Prop := ∀ k, k < bs.length → bs.getD k 0 < 256 ∧ va 0 (240 * s + k) = sb_b (bs.getD k 0)
theorem sb_and {b : Nat} (h : b < 256) : sb_b b &&& nI 255 = nI b := (sb_byte b h).1
def isNm (v : Int32) : Bool := !decide (v < 0) && !decide (nI 16777215 < v)
section M1
variable {l : Launch} {D : zD} {hp : zH} {o : Nat} {va : Nat → Nat → Int32} {vf : Nat → Int32} {Q : Option Value → zH → Prop}
theorem c_m_at (s k : Nat) {bs : List Nat} (hr : zrow va s bs) (hk : k < bs.length) (hs : 240 * s + k < 15840) (hQ : Q (some (.int (nI (bs.getD k 0)))) (zmod D o hp va vf)) : Runs l D M_m_at [.ref o, .int (nI s), .int (nI k)] (zmod D o hp va vf) 0 0 Q := by
  refine Runs.of rfl rfl (Nat.le_of_ble_eq_true rfl) ?_
  refine z_aload_n d_m_at_0 1 rfl rfl rfl ?_
  refine zm_getA 0 d_m_at_1 4 rfl f_m_7 rfl ?_
  refine z_sipush (v := nI 240) d_m_at_4 7 rfl rfl ?_
  refine z_iload_n d_m_at_7 8 rfl rfl rfl ?_
  first | refine z_imulN d_m_at_8 9 rfl ?_ | refine z_imul d_m_at_8 9 rfl ?_
  refine z_iload_n d_m_at_9 10 rfl rfl rfl ?_
  first | refine z_iaddN d_m_at_10 11 rfl ?_ | refine z_iadd d_m_at_10 11 rfl ?_
  refine zm_bald d_m_at_11 12 rfl (by omega) ?_
  refine z_sipush (v := nI 255) d_m_at_12 15 rfl rfl ?_
  refine z_iand d_m_at_15 16 rfl ?_
  rw [(hr k hk).2, sb_and (hr k hk).1]
  exact z_iret d_m_at_16 rfl (Nat.le_refl 0) (Nat.le_refl 0) hQ
theorem c_m_digest (b0 s n : Nat) {bs : List Nat} (hr : zrow va s bs) (hn : n ≤ bs.length) (hs : s < 66) (hl : bs.length ≤ 240) (hb0 : b0 < 16777213) (hQ : Q (some (.int (nI (dg b0 (bs.take n))))) (zmod D o hp va vf)) : Runs l D M_m_digest [.ref o, .int (nI b0), .int (nI s), .int (nI n)] (zmod D o hp va vf) 0 0 Q := by
  refine Runs.of rfl rfl (Nat.le_of_ble_eq_true rfl) ?_
  refine z_iload_n d_m_digest_0 1 rfl rfl rfl ?_
  refine z_i2lN d_m_digest_1 2 rfl (by omega) ?_
  refine z_lst4 d_m_digest_2 4 rfl rfl ?_
  refine z_iconst (v := nI 0) d_m_digest_4 5 rfl rfl ?_
  refine z_ist6 d_m_digest_5 7 rfl rfl ?_
  have loop : ∀ (i j : Nat), j + i = n → Z l D M_m_digest 0 0 Q (zmod D o hp va vf) 0 0 7 [some (.ref o), some (.int (nI b0)), some (.int (nI s)), some (.int (nI n)), some (.long (lN (dg b0 (bs.take j)))), none, some (.int (nI j))] [] := by
    intro i
    induction i with
    | zero =>
      intro j hj
      have hj : j = n := by omega
      subst hj
      refine z_iload d_m_digest_7 9 rfl rfl ?_
      refine z_iload_n d_m_digest_9 10 rfl rfl rfl ?_
      refine z_icmp_geN (tgt := 42) d_m_digest_10 13 rfl rfl (by omega) (by omega) (fun h10 => ?_) (fun h10 => ?_)
      · refine z_lload d_m_digest_42 44 rfl rfl ?_
        refine z_l2iN d_m_digest_44 45 rfl ?_
        exact z_iret d_m_digest_45 rfl (Nat.le_refl 0) (Nat.le_refl 0) hQ
      · omega
    | succ i ih =>
      intro j hj
      refine z_iload d_m_digest_7 9 rfl rfl ?_
      refine z_iload_n d_m_digest_9 10 rfl rfl rfl ?_
      refine z_icmp_geN (tgt := 42) d_m_digest_10 13 rfl rfl (by omega) (by omega) (fun h10 => ?_) (fun h10 => ?_)
      · omega
      · have hd := dg_lt hb0 (bs.take j)
        have hbj := (hr j (by omega)).1
        refine z_ldc2 d_m_digest_13 16 rfl ct_m_38 ?_
        refine z_lload d_m_digest_16 18 rfl rfl ?_
        first | refine z_lmulN d_m_digest_18 19 rfl ?_ | refine z_lmul d_m_digest_18 19 rfl ?_
        refine z_aload_n d_m_digest_19 20 rfl rfl rfl ?_
        refine z_iload_n d_m_digest_20 21 rfl rfl rfl ?_
        refine z_iload d_m_digest_21 23 rfl rfl ?_
        refine zm_cV1 d_m_digest_23 26 rfl mv_m_at kl_m_40 (by decide) (fun Q' h => c_m_at s j hr (by omega) (by omega) h) rfl rfl (Nat.le_of_ble_eq_true rfl) ?_
        refine z_i2lN d_m_digest_26 27 rfl (by omega) ?_
        first | refine z_laddN d_m_digest_27 28 rfl ?_ | refine z_ladd d_m_digest_27 28 rfl ?_
        refine z_lconst (v := lN 1) d_m_digest_28 29 rfl rfl ?_
        first | refine z_laddN d_m_digest_29 30 rfl ?_ | refine z_ladd d_m_digest_29 30 rfl ?_
        refine z_ldc2 d_m_digest_30 33 rfl ct_m_44 ?_
        refine z_lremN d_m_digest_33 34 rfl (by omega) (by omega) (by omega) ?_
        refine z_lst4 d_m_digest_34 36 rfl rfl ?_
        rw [← dg_take_succ b0 (by omega)]
        first | refine z_incN6 d_m_digest_36 39 rfl rfl ?_ | refine z_inc6 d_m_digest_36 39 rfl rfl rfl ?_
        refine z_goto (tgt := 7) d_m_digest_39 rfl ?_
        exact ih (j + 1) (by omega)
  exact loop n 0 (by omega)
theorem c_m_isName (v : Int32) (hQ : Q (some (.int (zb (isNm v)))) hp) : Runs l D M_m_isName [.int v] hp 0 0 Q := by
  refine Runs.of rfl rfl (Nat.le_of_ble_eq_true rfl) ?_
  refine z_iload_n d_m_isName_0 1 rfl rfl rfl ?_
  refine z_if_lt (tgt := 14) d_m_isName_1 4 rfl rfl (fun h1 => ?_) (fun h1 => ?_)
  · refine z_iconst (v := nI 0) d_m_isName_14 15 rfl rfl ?_
    exact z_zretB (b := false) d_m_isName_15 rfl (Nat.le_refl 0) (Nat.le_refl 0) (by simpa [isNm, *] using hQ)
  · refine z_iload_n d_m_isName_4 5 rfl rfl rfl ?_
    refine z_ldc d_m_isName_5 7 rfl ct_m_46 ?_
    refine z_icmp_gt (tgt := 14) d_m_isName_7 10 rfl rfl (fun h7 => ?_) (fun h7 => ?_)
    · refine z_iconst (v := nI 0) d_m_isName_14 15 rfl rfl ?_
      exact z_zretB (b := false) d_m_isName_15 rfl (Nat.le_refl 0) (Nat.le_refl 0) (by simpa [isNm, *] using hQ)
    · refine z_iconst (v := nI 1) d_m_isName_10 11 rfl rfl ?_
      refine z_goto (tgt := 15) d_m_isName_11 rfl ?_
      exact z_zretB (b := true) d_m_isName_15 rfl (Nat.le_refl 0) (Nat.le_refl 0) (by simpa [isNm, *] using hQ)
theorem c_m_isDigit (b : Nat) (hb : b < 2 ^ 31) (hQ : Q (some (.int (zb (isDg b)))) hp) : Runs l D M_m_isDigit [.int (nI b)] hp 0 0 Q := by
  refine Runs.of rfl rfl (Nat.le_of_ble_eq_true rfl) ?_
  refine z_iload_n d_m_isDigit_0 1 rfl rfl rfl ?_
  refine z_bipush (v := nI 48) d_m_isDigit_1 3 rfl rfl ?_
  refine z_icmp_ltN (tgt := 16) d_m_isDigit_3 6 rfl rfl (by omega) (by omega) (fun h3 => ?_) (fun h3 => ?_)
  · refine z_iconst (v := nI 0) d_m_isDigit_16 17 rfl rfl ?_
    exact z_zretB (b := false) d_m_isDigit_17 rfl (Nat.le_refl 0) (Nat.le_refl 0) (by rw [show isDg b = false by (simp only [isDg, Bool.and_eq_false_iff, Bool.and_eq_true, decide_eq_true_eq, decide_eq_false_iff_not]; omega)] at hQ; exact hQ)
  · refine z_iload_n d_m_isDigit_6 7 rfl rfl rfl ?_
    refine z_bipush (v := nI 57) d_m_isDigit_7 9 rfl rfl ?_
    refine z_icmp_gtN (tgt := 16) d_m_isDigit_9 12 rfl rfl (by omega) (by omega) (fun h9 => ?_) (fun h9 => ?_)
    · refine z_iconst (v := nI 0) d_m_isDigit_16 17 rfl rfl ?_
      exact z_zretB (b := false) d_m_isDigit_17 rfl (Nat.le_refl 0) (Nat.le_refl 0) (by rw [show isDg b = false by (simp only [isDg, Bool.and_eq_false_iff, Bool.and_eq_true, decide_eq_true_eq, decide_eq_false_iff_not]; omega)] at hQ; exact hQ)
    · refine z_iconst (v := nI 1) d_m_isDigit_12 13 rfl rfl ?_
      refine z_goto (tgt := 17) d_m_isDigit_13 rfl ?_
      exact z_zretB (b := true) d_m_isDigit_17 rfl (Nat.le_refl 0) (Nat.le_refl 0) (by rw [show isDg b = true by (simp only [isDg, Bool.and_eq_false_iff, Bool.and_eq_true, decide_eq_true_eq, decide_eq_false_iff_not]; omega)] at hQ; exact hQ)
theorem c_m_nameAt (s k : Nat) {bs : List Nat} (hr : zrow va s bs) (hk : k + 6 ≤ bs.length) (hs : s < 66) (hl : bs.length ≤ 240) (hQ : Q (some (.int (oI (nm6 (gB bs 0) k)))) (zmod D o hp va vf)) : Runs l D M_m_nameAt [.ref o, .int (nI s), .int (nI k)] (zmod D o hp va vf) 0 0 Q := by
  refine Runs.of rfl rfl (Nat.le_of_ble_eq_true rfl) ?_
  refine z_iconst (v := nI 0) d_m_nameAt_0 1 rfl rfl ?_
  refine z_ist3 d_m_nameAt_1 2 rfl rfl ?_
  refine z_iload_n d_m_nameAt_2 3 rfl rfl rfl ?_
  refine z_ist4 d_m_nameAt_3 5 rfl rfl ?_
  have loop : ∀ (c j v : Nat) (z : Option Value), j + c = k + 6 → c ≤ 6 → v < 16 ^ (6 - c) → (z = none ∨ ∃ y, z = some (.int y)) → Q (some (.int (oI (nmF (gB bs 0) j c v)))) (zmod D o hp va vf) → Z l D M_m_nameAt 0 0 Q (zmod D o hp va vf) 0 0 5 [some (.ref o), some (.int (nI s)), some (.int (nI k)), some (.int (nI v)), some (.int (nI j)), z] [] := by
    intro c
    induction c with
    | zero =>
      intro j v z hj hc hv hz hQ
      refine z_iload d_m_nameAt_5 7 rfl rfl ?_
      refine z_iload_n d_m_nameAt_7 8 rfl rfl rfl ?_
      refine z_bipush (v := nI 6) d_m_nameAt_8 10 rfl rfl ?_
      first | refine z_iaddN d_m_nameAt_10 11 rfl ?_ | refine z_iadd d_m_nameAt_10 11 rfl ?_
      refine z_icmp_geN (tgt := 54) d_m_nameAt_11 14 rfl rfl (by omega) (by omega) (fun h11 => ?_) (fun h11 => ?_)
      · refine z_iload_n d_m_nameAt_54 55 rfl rfl rfl ?_
        exact z_iret d_m_nameAt_55 rfl (Nat.le_refl 0) (Nat.le_refl 0) hQ
      · omega
    | succ c ih =>
      intro j v z hj hc hv hz hQ
      have hv2 : 16 ^ (6 - c) = 16 ^ (6 - (c + 1)) * 16 := by rw [← Nat.pow_succ]; congr 1; omega
      have hv3 : 16 ^ (6 - c) ≤ 16 ^ 6 := Nat.pow_le_pow_right (by decide) (by omega)
      have hbj := (hr j (by omega)).1
      have e : gB bs 0 j = bs.getD j 0 := by simp [gB]
      rw [nmF, e] at hQ
      refine z_iload d_m_nameAt_5 7 rfl rfl ?_
      refine z_iload_n d_m_nameAt_7 8 rfl rfl rfl ?_
      refine z_bipush (v := nI 6) d_m_nameAt_8 10 rfl rfl ?_
      first | refine z_iaddN d_m_nameAt_10 11 rfl ?_ | refine z_iadd d_m_nameAt_10 11 rfl ?_
      refine z_icmp_geN (tgt := 54) d_m_nameAt_11 14 rfl rfl (by omega) (by omega) (fun h11 => ?_) (fun h11 => ?_)
      · omega
      · refine z_aload_n d_m_nameAt_14 15 rfl rfl rfl ?_
        refine z_iload_n d_m_nameAt_15 16 rfl rfl rfl ?_
        refine z_iload d_m_nameAt_16 18 rfl rfl ?_
        refine zm_cV1 d_m_nameAt_18 21 rfl mv_m_at kl_m_40 (by decide) (fun Q' h => c_m_at s j hr (by omega) (by omega) h) rfl rfl (Nat.le_of_ble_eq_true rfl) ?_
        refine z_bipush (v := nI 97) d_m_nameAt_21 23 rfl rfl ?_
        by_cases h97 : 97 ≤ bs.getD j 0
        · refine z_isubN d_m_nameAt_23 24 rfl (by omega) ?_
          refine z_ist5 d_m_nameAt_24 26 rfl rfl ?_
          refine z_iload d_m_nameAt_26 28 rfl rfl ?_
          refine z_if_lt (tgt := 38) d_m_nameAt_28 31 rfl rfl (fun h28 => ?_) (fun h28 => ?_)
          · exact absurd h28 (nI_pos (by omega))
          · refine z_iload d_m_nameAt_31 33 rfl rfl ?_
            refine z_bipush (v := nI 15) d_m_nameAt_33 35 rfl rfl ?_
            refine z_icmp_leN (tgt := 40) d_m_nameAt_35 38 rfl rfl (by omega) (by omega) (fun h35 => ?_) (fun h35 => ?_)
            · rw [if_pos ⟨h97, by omega⟩] at hQ
              refine z_bipush (v := nI 16) d_m_nameAt_40 42 rfl rfl ?_
              refine z_iload_n d_m_nameAt_42 43 rfl rfl rfl ?_
              first | refine z_imulN d_m_nameAt_43 44 rfl ?_ | refine z_imul d_m_nameAt_43 44 rfl ?_
              refine z_iload d_m_nameAt_44 46 rfl rfl ?_
              first | refine z_iaddN d_m_nameAt_46 47 rfl ?_ | refine z_iadd d_m_nameAt_46 47 rfl ?_
              refine z_ist3 d_m_nameAt_47 48 rfl rfl ?_
              first | refine z_incN4 d_m_nameAt_48 51 rfl rfl ?_ | refine z_inc4 d_m_nameAt_48 51 rfl rfl rfl ?_
              refine z_goto (tgt := 5) d_m_nameAt_51 rfl ?_
              exact ih (j + 1) (16 * v + (bs.getD j 0 - 97)) _ (by omega) (by omega) (by omega) (Or.inr ⟨_, rfl⟩) hQ
            · rw [if_neg (by omega)] at hQ
              refine z_iconst (v := -1) d_m_nameAt_38 39 rfl (by decide) ?_
              exact z_iret d_m_nameAt_39 rfl (Nat.le_refl 0) (Nat.le_refl 0) hQ
        · refine z_isub d_m_nameAt_23 24 rfl ?_
          refine z_ist5 d_m_nameAt_24 26 rfl rfl ?_
          refine z_iload d_m_nameAt_26 28 rfl rfl ?_
          refine z_if_lt (tgt := 38) d_m_nameAt_28 31 rfl rfl (fun h28 => ?_) (fun h28 => ?_)
          · rw [if_neg (by omega)] at hQ
            refine z_iconst (v := -1) d_m_nameAt_38 39 rfl (by decide) ?_
            exact z_iret d_m_nameAt_39 rfl (Nat.le_refl 0) (Nat.le_refl 0) hQ
          · exact absurd (pk_sneg (by omega) (by omega)) h28
  exact loop 6 k 0 none (by omega) (by omega) (by decide) (Or.inl rfl) hQ
theorem gB_at (bs : List Nat) (k i : Nat) : bs.getD (k + i) 0 = gB bs k i := rfl
theorem gB_0 (bs : List Nat) (k : Nat) : bs.getD k 0 = gB bs k 0 := rfl
theorem nmF_gB (bs : List Nat) (k : Nat) : ∀ (c i v : Nat), nmF (gB bs 0) (k + i) c v = nmF (gB bs k) i c v := by
  intro c
  induction c with
  | zero => intro i v; rfl
  | succ c ih =>
    intro i v
    have e : gB bs 0 (k + i) = gB bs k i := by simp [gB]
    simp only [nmF, e]
    rw [← ih (i + 1)]
    rfl
theorem c_m_nameAtG (s k i : Nat) {bs : List Nat} (hr : zrow va s bs) (hk : k + i + 6 ≤ bs.length) (hs : s < 66) (hl : bs.length ≤ 240) (hQ : Q (some (.int (oI (nm6 (gB bs k) i)))) (zmod D o hp va vf)) : Runs l D M_m_nameAt [.ref o, .int (nI s), .int (nI (k + i))] (zmod D o hp va vf) 0 0 Q :=
  c_m_nameAt s (k + i) hr hk hs hl (by rw [nm6, nmF_gB]; exact hQ)
theorem c_m_atG (s k i : Nat) {bs : List Nat} (hr : zrow va s bs) (hk : k + i < bs.length) (hs : s < 66) (hl : bs.length ≤ 240) (hQ : Q (some (.int (nI (gB bs k i)))) (zmod D o hp va vf)) : Runs l D M_m_at [.ref o, .int (nI s), .int (nI (k + i))] (zmod D o hp va vf) 0 0 Q :=
  c_m_at s (k + i) hr hk (by omega) hQ
theorem c_m_at0 (s k : Nat) {bs : List Nat} (hr : zrow va s bs) (hk : k < bs.length) (hs : s < 66) (hl : bs.length ≤ 240) (hQ : Q (some (.int (nI (gB bs k 0)))) (zmod D o hp va vf)) : Runs l D M_m_at [.ref o, .int (nI s), .int (nI k)] (zmod D o hp va vf) 0 0 Q :=
  c_m_at s k hr hk (by omega) hQ
end M1
end
section
/-! The reference: numbers, parents, tags, cards. Own work. -/
theorem gB_lt {va : Nat → Nat → Int32} {s : Nat} {bs : List Nat} (hr : zrow va s bs) (k i : Nat) : gB bs k i < 256 := by
  by_cases h : k + i < bs.length
  · exact (hr (k + i) h).1
  · have : gB bs k i = 0 := by simp [gB, List.getElem?_eq_none (Nat.le_of_not_lt h)]
    omega
section M2
variable {l : Launch} {D : zD} {hp : zH} {o : Nat} {va : Nat → Nat → Int32} {vf : Nat → Int32} {Q : Option Value → zH → Prop}
theorem c_m_isParent (s k n : Nat) {bs : List Nat} (hr : zrow va s bs) (hk : k + n ≤ bs.length) (hs : s < 66) (hl : bs.length ≤ 240) (hy : vf 15 = oI none)
    (hQ : ∀ vf' : Nat → Int32, (∀ j, j ≠ 14 → j ≠ 15 → vf' j = vf j) → (∀ c, cardP (gB bs k) n = some c → vf' 14 = oI c.2.2.2.1 ∧ vf' 15 = oI c.2.2.2.2.1) → Q (some (.int (zb (cardP (gB bs k) n).isSome))) (zmod D o hp va vf')) :
    Runs l D M_m_isParent [.ref o, .int (nI s), .int (nI k), .int (nI n)] (zmod D o hp va vf) 0 0 Q := by
  refine Runs.of rfl rfl (Nat.le_of_ble_eq_true rfl) ?_
  have hlt := gB_lt hr k
  have hlt8 := hlt 8
  refine z_iload_n d_m_isParent_0 1 rfl rfl rfl ?_
  refine z_bipush (v := nI 8) d_m_isParent_1 3 rfl rfl ?_
  refine z_icmp_eqN (tgt := 14) d_m_isParent_3 6 rfl rfl (by omega) (by omega) (fun h3 => ?_) (fun h3 => ?_)
  · refine z_aload_n d_m_isParent_14 15 rfl rfl rfl ?_
    refine z_aload_n d_m_isParent_15 16 rfl rfl rfl ?_
    refine z_iload_n d_m_isParent_16 17 rfl rfl rfl ?_
    refine z_iload_n d_m_isParent_17 18 rfl rfl rfl ?_
    refine z_iconst (v := nI 2) d_m_isParent_18 19 rfl rfl ?_
    first | refine z_iaddN d_m_isParent_19 20 rfl ?_ | refine z_iadd d_m_isParent_19 20 rfl ?_
    refine zm_cV1 d_m_isParent_20 23 rfl mv_m_nameAt kl_m_67 (by decide) (fun Q' h => c_m_nameAtG s k 2 hr (by omega) hs hl h) rfl rfl (Nat.le_of_ble_eq_true rfl) ?_
    refine zm_putF 14 d_m_isParent_23 26 rfl (p_m_58 _) (by decide) (by decide) ?_
    refine z_iload_n d_m_isParent_26 27 rfl rfl rfl ?_
    refine z_bipush (v := nI 8) d_m_isParent_27 29 rfl rfl ?_
    refine z_icmp_eqN (tgt := 39) d_m_isParent_29 32 rfl rfl (by omega) (by omega) (fun h29 => ?_) (fun h29 => ?_)
    · refine z_aload_n d_m_isParent_39 40 rfl rfl rfl ?_
      refine zm_getF 14 d_m_isParent_40 43 rfl f_m_58 rfl ?_; try simp only [pk_us, pk_un, ne_eq, Nat.reduceEqDiff, not_false_eq_true]
      refine z_if_ltO (tgt := 50) d_m_isParent_43 46 rfl rfl (fun v h => by have := nm6_lt h; omega) (fun h43 => ?_) (fun w43 h43 => ?_)
      · refine z_iconst (v := nI 0) d_m_isParent_50 51 rfl rfl ?_
        exact z_zretB (b := false) d_m_isParent_51 rfl (Nat.le_refl 0) (Nat.le_refl 0) (by first | (exfalso; omega) | (have e : (cardP (gB bs k) n).isSome = false := (by simp [cardP, *]); rw [← e]; exact hQ _ (fun j h1 h2 => by simp [upd, h1, h2]) (fun c hc => by first | (exfalso; rw [hc] at e; simp at e; done) | (simp [cardP, *] at hc; subst hc; simp [upd, *]))) | (exfalso; simp_all; done))
      · refine z_iconst (v := nI 1) d_m_isParent_46 47 rfl rfl ?_
        refine z_goto (tgt := 51) d_m_isParent_47 rfl ?_
        exact z_zretB (b := true) d_m_isParent_51 rfl (Nat.le_refl 0) (Nat.le_refl 0) (by first | (exfalso; omega) | (have e : (cardP (gB bs k) n).isSome = true := (by simp [cardP, *]); rw [← e]; exact hQ _ (fun j h1 h2 => by simp [upd, h1, h2]) (fun c hc => by first | (exfalso; rw [hc] at e; simp at e; done) | (simp [cardP, *] at hc; subst hc; simp [upd, *]))) | (exfalso; simp_all; done))
    · refine z_aload_n d_m_isParent_32 33 rfl rfl rfl ?_
      refine zm_getF 14 d_m_isParent_33 36 rfl f_m_58 rfl ?_; try simp only [pk_us, pk_un, ne_eq, Nat.reduceEqDiff, not_false_eq_true]
      refine z_if_geO (tgt := 52) d_m_isParent_36 39 rfl rfl (fun v h => by have := nm6_lt h; omega) (fun w36 h36 => ?_) (fun h36 => ?_)
      · refine z_aload_n d_m_isParent_52 53 rfl rfl rfl ?_
        refine z_aload_n d_m_isParent_53 54 rfl rfl rfl ?_
        refine z_iload_n d_m_isParent_54 55 rfl rfl rfl ?_
        refine z_iload_n d_m_isParent_55 56 rfl rfl rfl ?_
        refine z_bipush (v := nI 9) d_m_isParent_56 58 rfl rfl ?_
        first | refine z_iaddN d_m_isParent_58 59 rfl ?_ | refine z_iadd d_m_isParent_58 59 rfl ?_
        refine zm_cV1 d_m_isParent_59 62 rfl mv_m_nameAt kl_m_67 (by decide) (fun Q' h => c_m_nameAtG s k 9 hr (by omega) hs hl h) rfl rfl (Nat.le_of_ble_eq_true rfl) ?_
        refine zm_putF 15 d_m_isParent_62 65 rfl (p_m_61 _) (by decide) (by decide) ?_
        refine z_aload_n d_m_isParent_65 66 rfl rfl rfl ?_
        refine z_iload_n d_m_isParent_66 67 rfl rfl rfl ?_
        refine z_iload_n d_m_isParent_67 68 rfl rfl rfl ?_
        refine z_bipush (v := nI 8) d_m_isParent_68 70 rfl rfl ?_
        first | refine z_iaddN d_m_isParent_70 71 rfl ?_ | refine z_iadd d_m_isParent_70 71 rfl ?_
        refine zm_cV1 d_m_isParent_71 74 rfl mv_m_at kl_m_40 (by decide) (fun Q' h => c_m_atG s k 8 hr (by omega) hs hl h) rfl rfl (Nat.le_of_ble_eq_true rfl) ?_
        refine z_bipush (v := nI 32) d_m_isParent_74 76 rfl rfl ?_
        refine z_icmp_neN (tgt := 101) d_m_isParent_76 79 rfl rfl (by omega) (by omega) (fun h76 => ?_) (fun h76 => ?_)
        · refine z_iconst (v := nI 0) d_m_isParent_101 102 rfl rfl ?_
          exact z_zretB (b := false) d_m_isParent_102 rfl (Nat.le_refl 0) (Nat.le_refl 0) (by first | (exfalso; omega) | (have e : (cardP (gB bs k) n).isSome = false := (by simp [cardP, *]); rw [← e]; exact hQ _ (fun j h1 h2 => by simp [upd, h1, h2]) (fun c hc => by first | (exfalso; rw [hc] at e; simp at e; done) | (simp [cardP, *] at hc; subst hc; simp [upd, *]))) | (exfalso; simp_all; done))
        · refine z_aload_n d_m_isParent_79 80 rfl rfl rfl ?_
          refine zm_getF 15 d_m_isParent_80 83 rfl f_m_61 rfl ?_; try simp only [pk_us, pk_un, ne_eq, Nat.reduceEqDiff, not_false_eq_true]
          refine z_if_ltO (tgt := 101) d_m_isParent_83 86 rfl rfl (fun v h => by have := nm6_lt h; omega) (fun h83 => ?_) (fun w83 h83 => ?_)
          · refine z_iconst (v := nI 0) d_m_isParent_101 102 rfl rfl ?_
            exact z_zretB (b := false) d_m_isParent_102 rfl (Nat.le_refl 0) (Nat.le_refl 0) (by first | (exfalso; omega) | (have e : (cardP (gB bs k) n).isSome = false := (by simp [cardP, *]); rw [← e]; exact hQ _ (fun j h1 h2 => by simp [upd, h1, h2]) (fun c hc => by first | (exfalso; rw [hc] at e; simp at e; done) | (simp [cardP, *] at hc; subst hc; simp [upd, *]))) | (exfalso; simp_all; done))
          · refine z_aload_n d_m_isParent_86 87 rfl rfl rfl ?_
            refine zm_getF 14 d_m_isParent_87 90 rfl f_m_58 rfl ?_; try simp only [pk_us, pk_un, ne_eq, Nat.reduceEqDiff, not_false_eq_true]
            refine z_aload_n d_m_isParent_90 91 rfl rfl rfl ?_
            refine zm_getF 15 d_m_isParent_91 94 rfl f_m_61 rfl ?_; try simp only [pk_us, pk_un, ne_eq, Nat.reduceEqDiff, not_false_eq_true]
            (rw [h36, h83]; have b1 := nm6_lt h36; have b2 := nm6_lt h83); refine z_icmp_eqN (tgt := 101) d_m_isParent_94 97 rfl rfl (by omega) (by omega) (fun h94 => ?_) (fun h94 => ?_)
            · refine z_iconst (v := nI 0) d_m_isParent_101 102 rfl rfl ?_
              exact z_zretB (b := false) d_m_isParent_102 rfl (Nat.le_refl 0) (Nat.le_refl 0) (by first | (exfalso; omega) | (have e : (cardP (gB bs k) n).isSome = false := (by simp [cardP, *]); rw [← e]; exact hQ _ (fun j h1 h2 => by simp [upd, h1, h2]) (fun c hc => by first | (exfalso; rw [hc] at e; simp at e; done) | (simp [cardP, *] at hc; subst hc; simp [upd, *]))) | (exfalso; simp_all; done))
            · refine z_iconst (v := nI 1) d_m_isParent_97 98 rfl rfl ?_
              refine z_goto (tgt := 102) d_m_isParent_98 rfl ?_
              exact z_zretB (b := true) d_m_isParent_102 rfl (Nat.le_refl 0) (Nat.le_refl 0) (by first | (exfalso; omega) | (have e : (cardP (gB bs k) n).isSome = true := (by simp [cardP, *]); rw [← e]; exact hQ _ (fun j h1 h2 => by simp [upd, h1, h2]) (fun c hc => by first | (exfalso; rw [hc] at e; simp at e; done) | (simp [cardP, *] at hc; subst hc; simp [upd, *]))) | (exfalso; simp_all; done))
      · refine z_aload_n d_m_isParent_39 40 rfl rfl rfl ?_
        refine zm_getF 14 d_m_isParent_40 43 rfl f_m_58 rfl ?_; try simp only [pk_us, pk_un, ne_eq, Nat.reduceEqDiff, not_false_eq_true]
        refine z_if_ltO (tgt := 50) d_m_isParent_43 46 rfl rfl (fun v h => by have := nm6_lt h; omega) (fun h43 => ?_) (fun w43 h43 => ?_)
        · refine z_iconst (v := nI 0) d_m_isParent_50 51 rfl rfl ?_
          exact z_zretB (b := false) d_m_isParent_51 rfl (Nat.le_refl 0) (Nat.le_refl 0) (by first | (exfalso; omega) | (have e : (cardP (gB bs k) n).isSome = false := (by simp [cardP, *]); rw [← e]; exact hQ _ (fun j h1 h2 => by simp [upd, h1, h2]) (fun c hc => by first | (exfalso; rw [hc] at e; simp at e; done) | (simp [cardP, *] at hc; subst hc; simp [upd, *]))) | (exfalso; simp_all; done))
        · refine z_iconst (v := nI 1) d_m_isParent_46 47 rfl rfl ?_
          refine z_goto (tgt := 51) d_m_isParent_47 rfl ?_
          exact z_zretB (b := true) d_m_isParent_51 rfl (Nat.le_refl 0) (Nat.le_refl 0) (by first | (exfalso; omega) | (have e : (cardP (gB bs k) n).isSome = true := (by simp [cardP, *]); rw [← e]; exact hQ _ (fun j h1 h2 => by simp [upd, h1, h2]) (fun c hc => by first | (exfalso; rw [hc] at e; simp at e; done) | (simp [cardP, *] at hc; subst hc; simp [upd, *]))) | (exfalso; simp_all; done))
  · refine z_iload_n d_m_isParent_6 7 rfl rfl rfl ?_
    refine z_bipush (v := nI 15) d_m_isParent_7 9 rfl rfl ?_
    refine z_icmp_eqN (tgt := 14) d_m_isParent_9 12 rfl rfl (by omega) (by omega) (fun h9 => ?_) (fun h9 => ?_)
    · refine z_aload_n d_m_isParent_14 15 rfl rfl rfl ?_
      refine z_aload_n d_m_isParent_15 16 rfl rfl rfl ?_
      refine z_iload_n d_m_isParent_16 17 rfl rfl rfl ?_
      refine z_iload_n d_m_isParent_17 18 rfl rfl rfl ?_
      refine z_iconst (v := nI 2) d_m_isParent_18 19 rfl rfl ?_
      first | refine z_iaddN d_m_isParent_19 20 rfl ?_ | refine z_iadd d_m_isParent_19 20 rfl ?_
      refine zm_cV1 d_m_isParent_20 23 rfl mv_m_nameAt kl_m_67 (by decide) (fun Q' h => c_m_nameAtG s k 2 hr (by omega) hs hl h) rfl rfl (Nat.le_of_ble_eq_true rfl) ?_
      refine zm_putF 14 d_m_isParent_23 26 rfl (p_m_58 _) (by decide) (by decide) ?_
      refine z_iload_n d_m_isParent_26 27 rfl rfl rfl ?_
      refine z_bipush (v := nI 8) d_m_isParent_27 29 rfl rfl ?_
      refine z_icmp_eqN (tgt := 39) d_m_isParent_29 32 rfl rfl (by omega) (by omega) (fun h29 => ?_) (fun h29 => ?_)
      · refine z_aload_n d_m_isParent_39 40 rfl rfl rfl ?_
        refine zm_getF 14 d_m_isParent_40 43 rfl f_m_58 rfl ?_; try simp only [pk_us, pk_un, ne_eq, Nat.reduceEqDiff, not_false_eq_true]
        refine z_if_ltO (tgt := 50) d_m_isParent_43 46 rfl rfl (fun v h => by have := nm6_lt h; omega) (fun h43 => ?_) (fun w43 h43 => ?_)
        · refine z_iconst (v := nI 0) d_m_isParent_50 51 rfl rfl ?_
          exact z_zretB (b := false) d_m_isParent_51 rfl (Nat.le_refl 0) (Nat.le_refl 0) (by first | (exfalso; omega) | (have e : (cardP (gB bs k) n).isSome = false := (by simp [cardP, *]); rw [← e]; exact hQ _ (fun j h1 h2 => by simp [upd, h1, h2]) (fun c hc => by first | (exfalso; rw [hc] at e; simp at e; done) | (simp [cardP, *] at hc; subst hc; simp [upd, *]))) | (exfalso; simp_all; done))
        · refine z_iconst (v := nI 1) d_m_isParent_46 47 rfl rfl ?_
          refine z_goto (tgt := 51) d_m_isParent_47 rfl ?_
          exact z_zretB (b := true) d_m_isParent_51 rfl (Nat.le_refl 0) (Nat.le_refl 0) (by first | (exfalso; omega) | (have e : (cardP (gB bs k) n).isSome = true := (by simp [cardP, *]); rw [← e]; exact hQ _ (fun j h1 h2 => by simp [upd, h1, h2]) (fun c hc => by first | (exfalso; rw [hc] at e; simp at e; done) | (simp [cardP, *] at hc; subst hc; simp [upd, *]))) | (exfalso; simp_all; done))
      · refine z_aload_n d_m_isParent_32 33 rfl rfl rfl ?_
        refine zm_getF 14 d_m_isParent_33 36 rfl f_m_58 rfl ?_; try simp only [pk_us, pk_un, ne_eq, Nat.reduceEqDiff, not_false_eq_true]
        refine z_if_geO (tgt := 52) d_m_isParent_36 39 rfl rfl (fun v h => by have := nm6_lt h; omega) (fun w36 h36 => ?_) (fun h36 => ?_)
        · refine z_aload_n d_m_isParent_52 53 rfl rfl rfl ?_
          refine z_aload_n d_m_isParent_53 54 rfl rfl rfl ?_
          refine z_iload_n d_m_isParent_54 55 rfl rfl rfl ?_
          refine z_iload_n d_m_isParent_55 56 rfl rfl rfl ?_
          refine z_bipush (v := nI 9) d_m_isParent_56 58 rfl rfl ?_
          first | refine z_iaddN d_m_isParent_58 59 rfl ?_ | refine z_iadd d_m_isParent_58 59 rfl ?_
          refine zm_cV1 d_m_isParent_59 62 rfl mv_m_nameAt kl_m_67 (by decide) (fun Q' h => c_m_nameAtG s k 9 hr (by omega) hs hl h) rfl rfl (Nat.le_of_ble_eq_true rfl) ?_
          refine zm_putF 15 d_m_isParent_62 65 rfl (p_m_61 _) (by decide) (by decide) ?_
          refine z_aload_n d_m_isParent_65 66 rfl rfl rfl ?_
          refine z_iload_n d_m_isParent_66 67 rfl rfl rfl ?_
          refine z_iload_n d_m_isParent_67 68 rfl rfl rfl ?_
          refine z_bipush (v := nI 8) d_m_isParent_68 70 rfl rfl ?_
          first | refine z_iaddN d_m_isParent_70 71 rfl ?_ | refine z_iadd d_m_isParent_70 71 rfl ?_
          refine zm_cV1 d_m_isParent_71 74 rfl mv_m_at kl_m_40 (by decide) (fun Q' h => c_m_atG s k 8 hr (by omega) hs hl h) rfl rfl (Nat.le_of_ble_eq_true rfl) ?_
          refine z_bipush (v := nI 32) d_m_isParent_74 76 rfl rfl ?_
          refine z_icmp_neN (tgt := 101) d_m_isParent_76 79 rfl rfl (by omega) (by omega) (fun h76 => ?_) (fun h76 => ?_)
          · refine z_iconst (v := nI 0) d_m_isParent_101 102 rfl rfl ?_
            exact z_zretB (b := false) d_m_isParent_102 rfl (Nat.le_refl 0) (Nat.le_refl 0) (by first | (exfalso; omega) | (have e : (cardP (gB bs k) n).isSome = false := (by simp [cardP, *]); rw [← e]; exact hQ _ (fun j h1 h2 => by simp [upd, h1, h2]) (fun c hc => by first | (exfalso; rw [hc] at e; simp at e; done) | (simp [cardP, *] at hc; subst hc; simp [upd, *]))) | (exfalso; simp_all; done))
          · refine z_aload_n d_m_isParent_79 80 rfl rfl rfl ?_
            refine zm_getF 15 d_m_isParent_80 83 rfl f_m_61 rfl ?_; try simp only [pk_us, pk_un, ne_eq, Nat.reduceEqDiff, not_false_eq_true]
            refine z_if_ltO (tgt := 101) d_m_isParent_83 86 rfl rfl (fun v h => by have := nm6_lt h; omega) (fun h83 => ?_) (fun w83 h83 => ?_)
            · refine z_iconst (v := nI 0) d_m_isParent_101 102 rfl rfl ?_
              exact z_zretB (b := false) d_m_isParent_102 rfl (Nat.le_refl 0) (Nat.le_refl 0) (by first | (exfalso; omega) | (have e : (cardP (gB bs k) n).isSome = false := (by simp [cardP, *]); rw [← e]; exact hQ _ (fun j h1 h2 => by simp [upd, h1, h2]) (fun c hc => by first | (exfalso; rw [hc] at e; simp at e; done) | (simp [cardP, *] at hc; subst hc; simp [upd, *]))) | (exfalso; simp_all; done))
            · refine z_aload_n d_m_isParent_86 87 rfl rfl rfl ?_
              refine zm_getF 14 d_m_isParent_87 90 rfl f_m_58 rfl ?_; try simp only [pk_us, pk_un, ne_eq, Nat.reduceEqDiff, not_false_eq_true]
              refine z_aload_n d_m_isParent_90 91 rfl rfl rfl ?_
              refine zm_getF 15 d_m_isParent_91 94 rfl f_m_61 rfl ?_; try simp only [pk_us, pk_un, ne_eq, Nat.reduceEqDiff, not_false_eq_true]
              (rw [h36, h83]; have b1 := nm6_lt h36; have b2 := nm6_lt h83); refine z_icmp_eqN (tgt := 101) d_m_isParent_94 97 rfl rfl (by omega) (by omega) (fun h94 => ?_) (fun h94 => ?_)
              · refine z_iconst (v := nI 0) d_m_isParent_101 102 rfl rfl ?_
                exact z_zretB (b := false) d_m_isParent_102 rfl (Nat.le_refl 0) (Nat.le_refl 0) (by first | (exfalso; omega) | (have e : (cardP (gB bs k) n).isSome = false := (by simp [cardP, *]); rw [← e]; exact hQ _ (fun j h1 h2 => by simp [upd, h1, h2]) (fun c hc => by first | (exfalso; rw [hc] at e; simp at e; done) | (simp [cardP, *] at hc; subst hc; simp [upd, *]))) | (exfalso; simp_all; done))
              · refine z_iconst (v := nI 1) d_m_isParent_97 98 rfl rfl ?_
                refine z_goto (tgt := 102) d_m_isParent_98 rfl ?_
                exact z_zretB (b := true) d_m_isParent_102 rfl (Nat.le_refl 0) (Nat.le_refl 0) (by first | (exfalso; omega) | (have e : (cardP (gB bs k) n).isSome = true := (by simp [cardP, *]); rw [← e]; exact hQ _ (fun j h1 h2 => by simp [upd, h1, h2]) (fun c hc => by first | (exfalso; rw [hc] at e; simp at e; done) | (simp [cardP, *] at hc; subst hc; simp [upd, *]))) | (exfalso; simp_all; done))
        · refine z_aload_n d_m_isParent_39 40 rfl rfl rfl ?_
          refine zm_getF 14 d_m_isParent_40 43 rfl f_m_58 rfl ?_; try simp only [pk_us, pk_un, ne_eq, Nat.reduceEqDiff, not_false_eq_true]
          refine z_if_ltO (tgt := 50) d_m_isParent_43 46 rfl rfl (fun v h => by have := nm6_lt h; omega) (fun h43 => ?_) (fun w43 h43 => ?_)
          · refine z_iconst (v := nI 0) d_m_isParent_50 51 rfl rfl ?_
            exact z_zretB (b := false) d_m_isParent_51 rfl (Nat.le_refl 0) (Nat.le_refl 0) (by first | (exfalso; omega) | (have e : (cardP (gB bs k) n).isSome = false := (by simp [cardP, *]); rw [← e]; exact hQ _ (fun j h1 h2 => by simp [upd, h1, h2]) (fun c hc => by first | (exfalso; rw [hc] at e; simp at e; done) | (simp [cardP, *] at hc; subst hc; simp [upd, *]))) | (exfalso; simp_all; done))
          · refine z_iconst (v := nI 1) d_m_isParent_46 47 rfl rfl ?_
            refine z_goto (tgt := 51) d_m_isParent_47 rfl ?_
            exact z_zretB (b := true) d_m_isParent_51 rfl (Nat.le_refl 0) (Nat.le_refl 0) (by first | (exfalso; omega) | (have e : (cardP (gB bs k) n).isSome = true := (by simp [cardP, *]); rw [← e]; exact hQ _ (fun j h1 h2 => by simp [upd, h1, h2]) (fun c hc => by first | (exfalso; rw [hc] at e; simp at e; done) | (simp [cardP, *] at hc; subst hc; simp [upd, *]))) | (exfalso; simp_all; done))
    · refine z_iconst (v := nI 0) d_m_isParent_12 13 rfl rfl ?_
      exact z_zretB (b := false) d_m_isParent_13 rfl (Nat.le_refl 0) (Nat.le_refl 0) (by first | (exfalso; omega) | (have e : (cardP (gB bs k) n).isSome = false := (by simp [cardP, *]); rw [← e]; exact hQ _ (fun j h1 h2 => by simp [upd, h1, h2]) (fun c hc => by first | (exfalso; rw [hc] at e; simp at e; done) | (simp [cardP, *] at hc; subst hc; simp [upd, *]))) | (exfalso; simp_all; done))
theorem c_m_isTag (s k n : Nat) {bs : List Nat} (hr : zrow va s bs) (hk : k + n ≤ bs.length) (hs : s < 66) (hl : bs.length ≤ 240) (hx : vf 14 = oI none) (hy : vf 15 = oI none)
    (hQ : ∀ vf' : Nat → Int32, (∀ j, j ≠ 12 → j ≠ 13 → j ≠ 14 → vf' j = vf j) → (∀ c, cardT (gB bs k) n = some c → vf' 14 = oI c.2.2.2.1 ∧ vf' 15 = oI c.2.2.2.2.1 ∧ vf' 12 = nI c.2.1 ∧ vf' 13 = zb c.2.2.1) → Q (some (.int (zb (cardT (gB bs k) n).isSome))) (zmod D o hp va vf')) :
    Runs l D M_m_isTag [.ref o, .int (nI s), .int (nI k), .int (nI n)] (zmod D o hp va vf) 0 0 Q := by
  refine Runs.of rfl rfl (Nat.le_of_ble_eq_true rfl) ?_
  have hlt := gB_lt hr k
  have h2 := hlt 2
  have h3 := hlt 3
  have h4 := hlt 4
  have h5 := hlt 5
  refine z_iload_n d_m_isTag_0 1 rfl rfl rfl ?_
  refine z_bipush (v := nI 6) d_m_isTag_1 3 rfl rfl ?_
  refine z_icmp_eqN (tgt := 14) d_m_isTag_3 6 rfl rfl (by omega) (by omega) (fun h3 => ?_) (fun h3 => ?_)
  · refine z_aload_n d_m_isTag_14 15 rfl rfl rfl ?_
    refine z_iload_n d_m_isTag_15 16 rfl rfl rfl ?_
    refine z_iload_n d_m_isTag_16 17 rfl rfl rfl ?_
    refine z_iconst (v := nI 2) d_m_isTag_17 18 rfl rfl ?_
    first | refine z_iaddN d_m_isTag_18 19 rfl ?_ | refine z_iadd d_m_isTag_18 19 rfl ?_
    refine zm_cV1 d_m_isTag_19 22 rfl mv_m_at kl_m_40 (by decide) (fun Q' h => c_m_atG s k 2 hr (by omega) hs hl h) rfl rfl (Nat.le_of_ble_eq_true rfl) ?_
    refine z_ist4 d_m_isTag_22 24 rfl rfl ?_
    refine z_iload d_m_isTag_24 26 rfl rfl ?_
    refine z_bipush (v := nI 43) d_m_isTag_26 28 rfl rfl ?_
    refine z_icmp_eqN (tgt := 38) d_m_isTag_28 31 rfl rfl (by omega) (by omega) (fun h28 => ?_) (fun h28 => ?_)
    · refine z_aload_n d_m_isTag_38 39 rfl rfl rfl ?_
      refine z_iload_n d_m_isTag_39 40 rfl rfl rfl ?_
      refine z_iload_n d_m_isTag_40 41 rfl rfl rfl ?_
      refine z_iconst (v := nI 3) d_m_isTag_41 42 rfl rfl ?_
      first | refine z_iaddN d_m_isTag_42 43 rfl ?_ | refine z_iadd d_m_isTag_42 43 rfl ?_
      refine zm_cV1 d_m_isTag_43 46 rfl mv_m_at kl_m_40 (by decide) (fun Q' h => c_m_atG s k 3 hr (by omega) hs hl h) rfl rfl (Nat.le_of_ble_eq_true rfl) ?_
      refine zm_cS1 d_m_isTag_46 49 rfl ms_m_isDigit kl_m_70 (by decide) (fun Q' h => c_m_isDigit _ (by omega) h) rfl rfl (Nat.le_of_ble_eq_true rfl) ?_
      refine z_if_eqB (tgt := 65) d_m_isTag_49 52 rfl rfl (fun h49 => ?_) (fun h49 => ?_)
      · refine z_iconst (v := nI 0) d_m_isTag_65 66 rfl rfl ?_
        exact z_zretB (b := false) d_m_isTag_66 rfl (Nat.le_refl 0) (Nat.le_refl 0) (by first | (exfalso; omega) | (have e : (cardT (gB bs k) n).isSome = false := (by simp [cardT, *]); rw [← e]; exact hQ _ (fun j h1 h2 h3 => by simp [upd, h1, h2, h3]) (fun c hc => by first | (exfalso; rw [hc] at e; simp at e; done) | (simp [cardT, *] at hc; subst hc; simp [upd, zb, *]))) | (exfalso; simp_all; done))
      · refine z_aload_n d_m_isTag_52 53 rfl rfl rfl ?_
        refine z_iload_n d_m_isTag_53 54 rfl rfl rfl ?_
        refine z_iload_n d_m_isTag_54 55 rfl rfl rfl ?_
        refine z_iconst (v := nI 4) d_m_isTag_55 56 rfl rfl ?_
        first | refine z_iaddN d_m_isTag_56 57 rfl ?_ | refine z_iadd d_m_isTag_56 57 rfl ?_
        refine zm_cV1 d_m_isTag_57 60 rfl mv_m_at kl_m_40 (by decide) (fun Q' h => c_m_atG s k 4 hr (by omega) hs hl h) rfl rfl (Nat.le_of_ble_eq_true rfl) ?_
        refine z_bipush (v := nI 32) d_m_isTag_60 62 rfl rfl ?_
        refine z_icmp_eqN (tgt := 67) d_m_isTag_62 65 rfl rfl (by omega) (by omega) (fun h62 => ?_) (fun h62 => ?_)
        · refine z_aload_n d_m_isTag_67 68 rfl rfl rfl ?_
          refine z_iload d_m_isTag_68 70 rfl rfl ?_
          refine z_bipush (v := nI 43) d_m_isTag_70 72 rfl rfl ?_
          refine z_icmp_neN (tgt := 79) d_m_isTag_72 75 rfl rfl (by omega) (by omega) (fun h72 => ?_) (fun h72 => ?_)
          · refine z_iconst (v := nI 0) d_m_isTag_79 80 rfl rfl ?_
            refine zm_putZ 13 d_m_isTag_80 83 rfl (p_m_86 _) (by decide) (by decide) (by first | exact Or.inl rfl | exact Or.inr rfl) ?_
            refine z_aload_n d_m_isTag_83 84 rfl rfl rfl ?_
            refine z_aload_n d_m_isTag_84 85 rfl rfl rfl ?_
            refine z_iload_n d_m_isTag_85 86 rfl rfl rfl ?_
            refine z_iload_n d_m_isTag_86 87 rfl rfl rfl ?_
            refine z_iconst (v := nI 3) d_m_isTag_87 88 rfl rfl ?_
            first | refine z_iaddN d_m_isTag_88 89 rfl ?_ | refine z_iadd d_m_isTag_88 89 rfl ?_
            refine zm_cV1 d_m_isTag_89 92 rfl mv_m_at kl_m_40 (by decide) (fun Q' h => c_m_atG s k 3 hr (by omega) hs hl h) rfl rfl (Nat.le_of_ble_eq_true rfl) ?_
            refine z_bipush (v := nI 48) d_m_isTag_92 94 rfl rfl ?_
            refine z_isubN d_m_isTag_94 95 rfl (by simp [isDg] at *; omega) ?_
            refine zm_putF 12 d_m_isTag_95 98 rfl (p_m_74 _) (by decide) (by decide) ?_
            refine z_iload_n d_m_isTag_98 99 rfl rfl rfl ?_
            refine z_bipush (v := nI 6) d_m_isTag_99 101 rfl rfl ?_
            refine z_icmp_neN (tgt := 123) d_m_isTag_101 104 rfl rfl (by omega) (by omega) (fun h101 => ?_) (fun h101 => ?_)
            · refine z_aload_n d_m_isTag_123 124 rfl rfl rfl ?_
              refine z_aload_n d_m_isTag_124 125 rfl rfl rfl ?_
              refine z_iload_n d_m_isTag_125 126 rfl rfl rfl ?_
              refine z_iload_n d_m_isTag_126 127 rfl rfl rfl ?_
              refine z_iconst (v := nI 5) d_m_isTag_127 128 rfl rfl ?_
              first | refine z_iaddN d_m_isTag_128 129 rfl ?_ | refine z_iadd d_m_isTag_128 129 rfl ?_
              refine zm_cV1 d_m_isTag_129 132 rfl mv_m_nameAt kl_m_67 (by decide) (fun Q' h => c_m_nameAtG s k 5 hr (by omega) hs hl h) rfl rfl (Nat.le_of_ble_eq_true rfl) ?_
              refine zm_putF 14 d_m_isTag_132 135 rfl (p_m_58 _) (by decide) (by decide) ?_
              refine z_aload_n d_m_isTag_135 136 rfl rfl rfl ?_
              refine zm_getF 14 d_m_isTag_136 139 rfl f_m_58 rfl ?_; try simp only [pk_us, pk_un, ne_eq, Nat.reduceEqDiff, not_false_eq_true]
              refine z_if_ltO (tgt := 146) d_m_isTag_139 142 rfl rfl (fun v h => by have := nm6_lt h; omega) (fun h139 => ?_) (fun w139 h139 => ?_)
              · refine z_iconst (v := nI 0) d_m_isTag_146 147 rfl rfl ?_
                exact z_zretB (b := false) d_m_isTag_147 rfl (Nat.le_refl 0) (Nat.le_refl 0) (by first | (exfalso; omega) | (have e : (cardT (gB bs k) n).isSome = false := (by simp [cardT, *]); rw [← e]; exact hQ _ (fun j h1 h2 h3 => by simp [upd, h1, h2, h3]) (fun c hc => by first | (exfalso; rw [hc] at e; simp at e; done) | (simp [cardT, *] at hc; subst hc; simp [upd, zb, *]))) | (exfalso; simp_all; done))
              · refine z_iconst (v := nI 1) d_m_isTag_142 143 rfl rfl ?_
                refine z_goto (tgt := 147) d_m_isTag_143 rfl ?_
                exact z_zretB (b := true) d_m_isTag_147 rfl (Nat.le_refl 0) (Nat.le_refl 0) (by first | (exfalso; omega) | (have e : (cardT (gB bs k) n).isSome = true := (by simp [cardT, *]); rw [← e]; exact hQ _ (fun j h1 h2 h3 => by simp [upd, h1, h2, h3]) (fun c hc => by first | (exfalso; rw [hc] at e; simp at e; done) | (simp [cardT, *] at hc; subst hc; simp [upd, zb, *]))) | (exfalso; simp_all; done))
            · refine z_aload_n d_m_isTag_104 105 rfl rfl rfl ?_
              refine z_iload_n d_m_isTag_105 106 rfl rfl rfl ?_
              refine z_iload_n d_m_isTag_106 107 rfl rfl rfl ?_
              refine z_iconst (v := nI 5) d_m_isTag_107 108 rfl rfl ?_
              first | refine z_iaddN d_m_isTag_108 109 rfl ?_ | refine z_iadd d_m_isTag_108 109 rfl ?_
              refine zm_cV1 d_m_isTag_109 112 rfl mv_m_at kl_m_40 (by decide) (fun Q' h => c_m_atG s k 5 hr (by omega) hs hl h) rfl rfl (Nat.le_of_ble_eq_true rfl) ?_
              refine z_bipush (v := nI 42) d_m_isTag_112 114 rfl rfl ?_
              refine z_icmp_neN (tgt := 121) d_m_isTag_114 117 rfl rfl (by omega) (by omega) (fun h114 => ?_) (fun h114 => ?_)
              · refine z_iconst (v := nI 0) d_m_isTag_121 122 rfl rfl ?_
                exact z_zretB (b := false) d_m_isTag_122 rfl (Nat.le_refl 0) (Nat.le_refl 0) (by first | (exfalso; omega) | (have e : (cardT (gB bs k) n).isSome = false := (by simp [cardT, *]); rw [← e]; exact hQ _ (fun j h1 h2 h3 => by simp [upd, h1, h2, h3]) (fun c hc => by first | (exfalso; rw [hc] at e; simp at e; done) | (simp [cardT, *] at hc; subst hc; simp [upd, zb, *]))) | (exfalso; simp_all; done))
              · refine z_iconst (v := nI 1) d_m_isTag_117 118 rfl rfl ?_
                refine z_goto (tgt := 122) d_m_isTag_118 rfl ?_
                exact z_zretB (b := true) d_m_isTag_122 rfl (Nat.le_refl 0) (Nat.le_refl 0) (by first | (exfalso; omega) | (have e : (cardT (gB bs k) n).isSome = true := (by simp [cardT, *]); rw [← e]; exact hQ _ (fun j h1 h2 h3 => by simp [upd, h1, h2, h3]) (fun c hc => by first | (exfalso; rw [hc] at e; simp at e; done) | (simp [cardT, *] at hc; subst hc; simp [upd, zb, *]))) | (exfalso; simp_all; done))
          · refine z_iconst (v := nI 1) d_m_isTag_75 76 rfl rfl ?_
            refine z_goto (tgt := 80) d_m_isTag_76 rfl ?_
            refine zm_putZ 13 d_m_isTag_80 83 rfl (p_m_86 _) (by decide) (by decide) (by first | exact Or.inl rfl | exact Or.inr rfl) ?_
            refine z_aload_n d_m_isTag_83 84 rfl rfl rfl ?_
            refine z_aload_n d_m_isTag_84 85 rfl rfl rfl ?_
            refine z_iload_n d_m_isTag_85 86 rfl rfl rfl ?_
            refine z_iload_n d_m_isTag_86 87 rfl rfl rfl ?_
            refine z_iconst (v := nI 3) d_m_isTag_87 88 rfl rfl ?_
            first | refine z_iaddN d_m_isTag_88 89 rfl ?_ | refine z_iadd d_m_isTag_88 89 rfl ?_
            refine zm_cV1 d_m_isTag_89 92 rfl mv_m_at kl_m_40 (by decide) (fun Q' h => c_m_atG s k 3 hr (by omega) hs hl h) rfl rfl (Nat.le_of_ble_eq_true rfl) ?_
            refine z_bipush (v := nI 48) d_m_isTag_92 94 rfl rfl ?_
            refine z_isubN d_m_isTag_94 95 rfl (by simp [isDg] at *; omega) ?_
            refine zm_putF 12 d_m_isTag_95 98 rfl (p_m_74 _) (by decide) (by decide) ?_
            refine z_iload_n d_m_isTag_98 99 rfl rfl rfl ?_
            refine z_bipush (v := nI 6) d_m_isTag_99 101 rfl rfl ?_
            refine z_icmp_neN (tgt := 123) d_m_isTag_101 104 rfl rfl (by omega) (by omega) (fun h101 => ?_) (fun h101 => ?_)
            · refine z_aload_n d_m_isTag_123 124 rfl rfl rfl ?_
              refine z_aload_n d_m_isTag_124 125 rfl rfl rfl ?_
              refine z_iload_n d_m_isTag_125 126 rfl rfl rfl ?_
              refine z_iload_n d_m_isTag_126 127 rfl rfl rfl ?_
              refine z_iconst (v := nI 5) d_m_isTag_127 128 rfl rfl ?_
              first | refine z_iaddN d_m_isTag_128 129 rfl ?_ | refine z_iadd d_m_isTag_128 129 rfl ?_
              refine zm_cV1 d_m_isTag_129 132 rfl mv_m_nameAt kl_m_67 (by decide) (fun Q' h => c_m_nameAtG s k 5 hr (by omega) hs hl h) rfl rfl (Nat.le_of_ble_eq_true rfl) ?_
              refine zm_putF 14 d_m_isTag_132 135 rfl (p_m_58 _) (by decide) (by decide) ?_
              refine z_aload_n d_m_isTag_135 136 rfl rfl rfl ?_
              refine zm_getF 14 d_m_isTag_136 139 rfl f_m_58 rfl ?_; try simp only [pk_us, pk_un, ne_eq, Nat.reduceEqDiff, not_false_eq_true]
              refine z_if_ltO (tgt := 146) d_m_isTag_139 142 rfl rfl (fun v h => by have := nm6_lt h; omega) (fun h139 => ?_) (fun w139 h139 => ?_)
              · refine z_iconst (v := nI 0) d_m_isTag_146 147 rfl rfl ?_
                exact z_zretB (b := false) d_m_isTag_147 rfl (Nat.le_refl 0) (Nat.le_refl 0) (by first | (exfalso; omega) | (have e : (cardT (gB bs k) n).isSome = false := (by simp [cardT, *]); rw [← e]; exact hQ _ (fun j h1 h2 h3 => by simp [upd, h1, h2, h3]) (fun c hc => by first | (exfalso; rw [hc] at e; simp at e; done) | (simp [cardT, *] at hc; subst hc; simp [upd, zb, *]))) | (exfalso; simp_all; done))
              · refine z_iconst (v := nI 1) d_m_isTag_142 143 rfl rfl ?_
                refine z_goto (tgt := 147) d_m_isTag_143 rfl ?_
                exact z_zretB (b := true) d_m_isTag_147 rfl (Nat.le_refl 0) (Nat.le_refl 0) (by first | (exfalso; omega) | (have e : (cardT (gB bs k) n).isSome = true := (by simp [cardT, *]); rw [← e]; exact hQ _ (fun j h1 h2 h3 => by simp [upd, h1, h2, h3]) (fun c hc => by first | (exfalso; rw [hc] at e; simp at e; done) | (simp [cardT, *] at hc; subst hc; simp [upd, zb, *]))) | (exfalso; simp_all; done))
            · refine z_aload_n d_m_isTag_104 105 rfl rfl rfl ?_
              refine z_iload_n d_m_isTag_105 106 rfl rfl rfl ?_
              refine z_iload_n d_m_isTag_106 107 rfl rfl rfl ?_
              refine z_iconst (v := nI 5) d_m_isTag_107 108 rfl rfl ?_
              first | refine z_iaddN d_m_isTag_108 109 rfl ?_ | refine z_iadd d_m_isTag_108 109 rfl ?_
              refine zm_cV1 d_m_isTag_109 112 rfl mv_m_at kl_m_40 (by decide) (fun Q' h => c_m_atG s k 5 hr (by omega) hs hl h) rfl rfl (Nat.le_of_ble_eq_true rfl) ?_
              refine z_bipush (v := nI 42) d_m_isTag_112 114 rfl rfl ?_
              refine z_icmp_neN (tgt := 121) d_m_isTag_114 117 rfl rfl (by omega) (by omega) (fun h114 => ?_) (fun h114 => ?_)
              · refine z_iconst (v := nI 0) d_m_isTag_121 122 rfl rfl ?_
                exact z_zretB (b := false) d_m_isTag_122 rfl (Nat.le_refl 0) (Nat.le_refl 0) (by first | (exfalso; omega) | (have e : (cardT (gB bs k) n).isSome = false := (by simp [cardT, *]); rw [← e]; exact hQ _ (fun j h1 h2 h3 => by simp [upd, h1, h2, h3]) (fun c hc => by first | (exfalso; rw [hc] at e; simp at e; done) | (simp [cardT, *] at hc; subst hc; simp [upd, zb, *]))) | (exfalso; simp_all; done))
              · refine z_iconst (v := nI 1) d_m_isTag_117 118 rfl rfl ?_
                refine z_goto (tgt := 122) d_m_isTag_118 rfl ?_
                exact z_zretB (b := true) d_m_isTag_122 rfl (Nat.le_refl 0) (Nat.le_refl 0) (by first | (exfalso; omega) | (have e : (cardT (gB bs k) n).isSome = true := (by simp [cardT, *]); rw [← e]; exact hQ _ (fun j h1 h2 h3 => by simp [upd, h1, h2, h3]) (fun c hc => by first | (exfalso; rw [hc] at e; simp at e; done) | (simp [cardT, *] at hc; subst hc; simp [upd, zb, *]))) | (exfalso; simp_all; done))
        · refine z_iconst (v := nI 0) d_m_isTag_65 66 rfl rfl ?_
          exact z_zretB (b := false) d_m_isTag_66 rfl (Nat.le_refl 0) (Nat.le_refl 0) (by first | (exfalso; omega) | (have e : (cardT (gB bs k) n).isSome = false := (by simp [cardT, *]); rw [← e]; exact hQ _ (fun j h1 h2 h3 => by simp [upd, h1, h2, h3]) (fun c hc => by first | (exfalso; rw [hc] at e; simp at e; done) | (simp [cardT, *] at hc; subst hc; simp [upd, zb, *]))) | (exfalso; simp_all; done))
    · refine z_iload d_m_isTag_31 33 rfl rfl ?_
      refine z_bipush (v := nI 45) d_m_isTag_33 35 rfl rfl ?_
      refine z_icmp_neN (tgt := 65) d_m_isTag_35 38 rfl rfl (by omega) (by omega) (fun h35 => ?_) (fun h35 => ?_)
      · refine z_iconst (v := nI 0) d_m_isTag_65 66 rfl rfl ?_
        exact z_zretB (b := false) d_m_isTag_66 rfl (Nat.le_refl 0) (Nat.le_refl 0) (by first | (exfalso; omega) | (have e : (cardT (gB bs k) n).isSome = false := (by simp [cardT, *]); rw [← e]; exact hQ _ (fun j h1 h2 h3 => by simp [upd, h1, h2, h3]) (fun c hc => by first | (exfalso; rw [hc] at e; simp at e; done) | (simp [cardT, *] at hc; subst hc; simp [upd, zb, *]))) | (exfalso; simp_all; done))
      · refine z_aload_n d_m_isTag_38 39 rfl rfl rfl ?_
        refine z_iload_n d_m_isTag_39 40 rfl rfl rfl ?_
        refine z_iload_n d_m_isTag_40 41 rfl rfl rfl ?_
        refine z_iconst (v := nI 3) d_m_isTag_41 42 rfl rfl ?_
        first | refine z_iaddN d_m_isTag_42 43 rfl ?_ | refine z_iadd d_m_isTag_42 43 rfl ?_
        refine zm_cV1 d_m_isTag_43 46 rfl mv_m_at kl_m_40 (by decide) (fun Q' h => c_m_atG s k 3 hr (by omega) hs hl h) rfl rfl (Nat.le_of_ble_eq_true rfl) ?_
        refine zm_cS1 d_m_isTag_46 49 rfl ms_m_isDigit kl_m_70 (by decide) (fun Q' h => c_m_isDigit _ (by omega) h) rfl rfl (Nat.le_of_ble_eq_true rfl) ?_
        refine z_if_eqB (tgt := 65) d_m_isTag_49 52 rfl rfl (fun h49 => ?_) (fun h49 => ?_)
        · refine z_iconst (v := nI 0) d_m_isTag_65 66 rfl rfl ?_
          exact z_zretB (b := false) d_m_isTag_66 rfl (Nat.le_refl 0) (Nat.le_refl 0) (by first | (exfalso; omega) | (have e : (cardT (gB bs k) n).isSome = false := (by simp [cardT, *]); rw [← e]; exact hQ _ (fun j h1 h2 h3 => by simp [upd, h1, h2, h3]) (fun c hc => by first | (exfalso; rw [hc] at e; simp at e; done) | (simp [cardT, *] at hc; subst hc; simp [upd, zb, *]))) | (exfalso; simp_all; done))
        · refine z_aload_n d_m_isTag_52 53 rfl rfl rfl ?_
          refine z_iload_n d_m_isTag_53 54 rfl rfl rfl ?_
          refine z_iload_n d_m_isTag_54 55 rfl rfl rfl ?_
          refine z_iconst (v := nI 4) d_m_isTag_55 56 rfl rfl ?_
          first | refine z_iaddN d_m_isTag_56 57 rfl ?_ | refine z_iadd d_m_isTag_56 57 rfl ?_
          refine zm_cV1 d_m_isTag_57 60 rfl mv_m_at kl_m_40 (by decide) (fun Q' h => c_m_atG s k 4 hr (by omega) hs hl h) rfl rfl (Nat.le_of_ble_eq_true rfl) ?_
          refine z_bipush (v := nI 32) d_m_isTag_60 62 rfl rfl ?_
          refine z_icmp_eqN (tgt := 67) d_m_isTag_62 65 rfl rfl (by omega) (by omega) (fun h62 => ?_) (fun h62 => ?_)
          · refine z_aload_n d_m_isTag_67 68 rfl rfl rfl ?_
            refine z_iload d_m_isTag_68 70 rfl rfl ?_
            refine z_bipush (v := nI 43) d_m_isTag_70 72 rfl rfl ?_
            refine z_icmp_neN (tgt := 79) d_m_isTag_72 75 rfl rfl (by omega) (by omega) (fun h72 => ?_) (fun h72 => ?_)
            · refine z_iconst (v := nI 0) d_m_isTag_79 80 rfl rfl ?_
              refine zm_putZ 13 d_m_isTag_80 83 rfl (p_m_86 _) (by decide) (by decide) (by first | exact Or.inl rfl | exact Or.inr rfl) ?_
              refine z_aload_n d_m_isTag_83 84 rfl rfl rfl ?_
              refine z_aload_n d_m_isTag_84 85 rfl rfl rfl ?_
              refine z_iload_n d_m_isTag_85 86 rfl rfl rfl ?_
              refine z_iload_n d_m_isTag_86 87 rfl rfl rfl ?_
              refine z_iconst (v := nI 3) d_m_isTag_87 88 rfl rfl ?_
              first | refine z_iaddN d_m_isTag_88 89 rfl ?_ | refine z_iadd d_m_isTag_88 89 rfl ?_
              refine zm_cV1 d_m_isTag_89 92 rfl mv_m_at kl_m_40 (by decide) (fun Q' h => c_m_atG s k 3 hr (by omega) hs hl h) rfl rfl (Nat.le_of_ble_eq_true rfl) ?_
              refine z_bipush (v := nI 48) d_m_isTag_92 94 rfl rfl ?_
              refine z_isubN d_m_isTag_94 95 rfl (by simp [isDg] at *; omega) ?_
              refine zm_putF 12 d_m_isTag_95 98 rfl (p_m_74 _) (by decide) (by decide) ?_
              refine z_iload_n d_m_isTag_98 99 rfl rfl rfl ?_
              refine z_bipush (v := nI 6) d_m_isTag_99 101 rfl rfl ?_
              refine z_icmp_neN (tgt := 123) d_m_isTag_101 104 rfl rfl (by omega) (by omega) (fun h101 => ?_) (fun h101 => ?_)
              · refine z_aload_n d_m_isTag_123 124 rfl rfl rfl ?_
                refine z_aload_n d_m_isTag_124 125 rfl rfl rfl ?_
                refine z_iload_n d_m_isTag_125 126 rfl rfl rfl ?_
                refine z_iload_n d_m_isTag_126 127 rfl rfl rfl ?_
                refine z_iconst (v := nI 5) d_m_isTag_127 128 rfl rfl ?_
                first | refine z_iaddN d_m_isTag_128 129 rfl ?_ | refine z_iadd d_m_isTag_128 129 rfl ?_
                refine zm_cV1 d_m_isTag_129 132 rfl mv_m_nameAt kl_m_67 (by decide) (fun Q' h => c_m_nameAtG s k 5 hr (by omega) hs hl h) rfl rfl (Nat.le_of_ble_eq_true rfl) ?_
                refine zm_putF 14 d_m_isTag_132 135 rfl (p_m_58 _) (by decide) (by decide) ?_
                refine z_aload_n d_m_isTag_135 136 rfl rfl rfl ?_
                refine zm_getF 14 d_m_isTag_136 139 rfl f_m_58 rfl ?_; try simp only [pk_us, pk_un, ne_eq, Nat.reduceEqDiff, not_false_eq_true]
                refine z_if_ltO (tgt := 146) d_m_isTag_139 142 rfl rfl (fun v h => by have := nm6_lt h; omega) (fun h139 => ?_) (fun w139 h139 => ?_)
                · refine z_iconst (v := nI 0) d_m_isTag_146 147 rfl rfl ?_
                  exact z_zretB (b := false) d_m_isTag_147 rfl (Nat.le_refl 0) (Nat.le_refl 0) (by first | (exfalso; omega) | (have e : (cardT (gB bs k) n).isSome = false := (by simp [cardT, *]); rw [← e]; exact hQ _ (fun j h1 h2 h3 => by simp [upd, h1, h2, h3]) (fun c hc => by first | (exfalso; rw [hc] at e; simp at e; done) | (simp [cardT, *] at hc; subst hc; simp [upd, zb, *]))) | (exfalso; simp_all; done))
                · refine z_iconst (v := nI 1) d_m_isTag_142 143 rfl rfl ?_
                  refine z_goto (tgt := 147) d_m_isTag_143 rfl ?_
                  exact z_zretB (b := true) d_m_isTag_147 rfl (Nat.le_refl 0) (Nat.le_refl 0) (by first | (exfalso; omega) | (have e : (cardT (gB bs k) n).isSome = true := (by simp [cardT, *]); rw [← e]; exact hQ _ (fun j h1 h2 h3 => by simp [upd, h1, h2, h3]) (fun c hc => by first | (exfalso; rw [hc] at e; simp at e; done) | (simp [cardT, *] at hc; subst hc; simp [upd, zb, *]))) | (exfalso; simp_all; done))
              · refine z_aload_n d_m_isTag_104 105 rfl rfl rfl ?_
                refine z_iload_n d_m_isTag_105 106 rfl rfl rfl ?_
                refine z_iload_n d_m_isTag_106 107 rfl rfl rfl ?_
                refine z_iconst (v := nI 5) d_m_isTag_107 108 rfl rfl ?_
                first | refine z_iaddN d_m_isTag_108 109 rfl ?_ | refine z_iadd d_m_isTag_108 109 rfl ?_
                refine zm_cV1 d_m_isTag_109 112 rfl mv_m_at kl_m_40 (by decide) (fun Q' h => c_m_atG s k 5 hr (by omega) hs hl h) rfl rfl (Nat.le_of_ble_eq_true rfl) ?_
                refine z_bipush (v := nI 42) d_m_isTag_112 114 rfl rfl ?_
                refine z_icmp_neN (tgt := 121) d_m_isTag_114 117 rfl rfl (by omega) (by omega) (fun h114 => ?_) (fun h114 => ?_)
                · refine z_iconst (v := nI 0) d_m_isTag_121 122 rfl rfl ?_
                  exact z_zretB (b := false) d_m_isTag_122 rfl (Nat.le_refl 0) (Nat.le_refl 0) (by first | (exfalso; omega) | (have e : (cardT (gB bs k) n).isSome = false := (by simp [cardT, *]); rw [← e]; exact hQ _ (fun j h1 h2 h3 => by simp [upd, h1, h2, h3]) (fun c hc => by first | (exfalso; rw [hc] at e; simp at e; done) | (simp [cardT, *] at hc; subst hc; simp [upd, zb, *]))) | (exfalso; simp_all; done))
                · refine z_iconst (v := nI 1) d_m_isTag_117 118 rfl rfl ?_
                  refine z_goto (tgt := 122) d_m_isTag_118 rfl ?_
                  exact z_zretB (b := true) d_m_isTag_122 rfl (Nat.le_refl 0) (Nat.le_refl 0) (by first | (exfalso; omega) | (have e : (cardT (gB bs k) n).isSome = true := (by simp [cardT, *]); rw [← e]; exact hQ _ (fun j h1 h2 h3 => by simp [upd, h1, h2, h3]) (fun c hc => by first | (exfalso; rw [hc] at e; simp at e; done) | (simp [cardT, *] at hc; subst hc; simp [upd, zb, *]))) | (exfalso; simp_all; done))
            · refine z_iconst (v := nI 1) d_m_isTag_75 76 rfl rfl ?_
              refine z_goto (tgt := 80) d_m_isTag_76 rfl ?_
              refine zm_putZ 13 d_m_isTag_80 83 rfl (p_m_86 _) (by decide) (by decide) (by first | exact Or.inl rfl | exact Or.inr rfl) ?_
              refine z_aload_n d_m_isTag_83 84 rfl rfl rfl ?_
              refine z_aload_n d_m_isTag_84 85 rfl rfl rfl ?_
              refine z_iload_n d_m_isTag_85 86 rfl rfl rfl ?_
              refine z_iload_n d_m_isTag_86 87 rfl rfl rfl ?_
              refine z_iconst (v := nI 3) d_m_isTag_87 88 rfl rfl ?_
              first | refine z_iaddN d_m_isTag_88 89 rfl ?_ | refine z_iadd d_m_isTag_88 89 rfl ?_
              refine zm_cV1 d_m_isTag_89 92 rfl mv_m_at kl_m_40 (by decide) (fun Q' h => c_m_atG s k 3 hr (by omega) hs hl h) rfl rfl (Nat.le_of_ble_eq_true rfl) ?_
              refine z_bipush (v := nI 48) d_m_isTag_92 94 rfl rfl ?_
              refine z_isubN d_m_isTag_94 95 rfl (by simp [isDg] at *; omega) ?_
              refine zm_putF 12 d_m_isTag_95 98 rfl (p_m_74 _) (by decide) (by decide) ?_
              refine z_iload_n d_m_isTag_98 99 rfl rfl rfl ?_
              refine z_bipush (v := nI 6) d_m_isTag_99 101 rfl rfl ?_
              refine z_icmp_neN (tgt := 123) d_m_isTag_101 104 rfl rfl (by omega) (by omega) (fun h101 => ?_) (fun h101 => ?_)
              · refine z_aload_n d_m_isTag_123 124 rfl rfl rfl ?_
                refine z_aload_n d_m_isTag_124 125 rfl rfl rfl ?_
                refine z_iload_n d_m_isTag_125 126 rfl rfl rfl ?_
                refine z_iload_n d_m_isTag_126 127 rfl rfl rfl ?_
                refine z_iconst (v := nI 5) d_m_isTag_127 128 rfl rfl ?_
                first | refine z_iaddN d_m_isTag_128 129 rfl ?_ | refine z_iadd d_m_isTag_128 129 rfl ?_
                refine zm_cV1 d_m_isTag_129 132 rfl mv_m_nameAt kl_m_67 (by decide) (fun Q' h => c_m_nameAtG s k 5 hr (by omega) hs hl h) rfl rfl (Nat.le_of_ble_eq_true rfl) ?_
                refine zm_putF 14 d_m_isTag_132 135 rfl (p_m_58 _) (by decide) (by decide) ?_
                refine z_aload_n d_m_isTag_135 136 rfl rfl rfl ?_
                refine zm_getF 14 d_m_isTag_136 139 rfl f_m_58 rfl ?_; try simp only [pk_us, pk_un, ne_eq, Nat.reduceEqDiff, not_false_eq_true]
                refine z_if_ltO (tgt := 146) d_m_isTag_139 142 rfl rfl (fun v h => by have := nm6_lt h; omega) (fun h139 => ?_) (fun w139 h139 => ?_)
                · refine z_iconst (v := nI 0) d_m_isTag_146 147 rfl rfl ?_
                  exact z_zretB (b := false) d_m_isTag_147 rfl (Nat.le_refl 0) (Nat.le_refl 0) (by first | (exfalso; omega) | (have e : (cardT (gB bs k) n).isSome = false := (by simp [cardT, *]); rw [← e]; exact hQ _ (fun j h1 h2 h3 => by simp [upd, h1, h2, h3]) (fun c hc => by first | (exfalso; rw [hc] at e; simp at e; done) | (simp [cardT, *] at hc; subst hc; simp [upd, zb, *]))) | (exfalso; simp_all; done))
                · refine z_iconst (v := nI 1) d_m_isTag_142 143 rfl rfl ?_
                  refine z_goto (tgt := 147) d_m_isTag_143 rfl ?_
                  exact z_zretB (b := true) d_m_isTag_147 rfl (Nat.le_refl 0) (Nat.le_refl 0) (by first | (exfalso; omega) | (have e : (cardT (gB bs k) n).isSome = true := (by simp [cardT, *]); rw [← e]; exact hQ _ (fun j h1 h2 h3 => by simp [upd, h1, h2, h3]) (fun c hc => by first | (exfalso; rw [hc] at e; simp at e; done) | (simp [cardT, *] at hc; subst hc; simp [upd, zb, *]))) | (exfalso; simp_all; done))
              · refine z_aload_n d_m_isTag_104 105 rfl rfl rfl ?_
                refine z_iload_n d_m_isTag_105 106 rfl rfl rfl ?_
                refine z_iload_n d_m_isTag_106 107 rfl rfl rfl ?_
                refine z_iconst (v := nI 5) d_m_isTag_107 108 rfl rfl ?_
                first | refine z_iaddN d_m_isTag_108 109 rfl ?_ | refine z_iadd d_m_isTag_108 109 rfl ?_
                refine zm_cV1 d_m_isTag_109 112 rfl mv_m_at kl_m_40 (by decide) (fun Q' h => c_m_atG s k 5 hr (by omega) hs hl h) rfl rfl (Nat.le_of_ble_eq_true rfl) ?_
                refine z_bipush (v := nI 42) d_m_isTag_112 114 rfl rfl ?_
                refine z_icmp_neN (tgt := 121) d_m_isTag_114 117 rfl rfl (by omega) (by omega) (fun h114 => ?_) (fun h114 => ?_)
                · refine z_iconst (v := nI 0) d_m_isTag_121 122 rfl rfl ?_
                  exact z_zretB (b := false) d_m_isTag_122 rfl (Nat.le_refl 0) (Nat.le_refl 0) (by first | (exfalso; omega) | (have e : (cardT (gB bs k) n).isSome = false := (by simp [cardT, *]); rw [← e]; exact hQ _ (fun j h1 h2 h3 => by simp [upd, h1, h2, h3]) (fun c hc => by first | (exfalso; rw [hc] at e; simp at e; done) | (simp [cardT, *] at hc; subst hc; simp [upd, zb, *]))) | (exfalso; simp_all; done))
                · refine z_iconst (v := nI 1) d_m_isTag_117 118 rfl rfl ?_
                  refine z_goto (tgt := 122) d_m_isTag_118 rfl ?_
                  exact z_zretB (b := true) d_m_isTag_122 rfl (Nat.le_refl 0) (Nat.le_refl 0) (by first | (exfalso; omega) | (have e : (cardT (gB bs k) n).isSome = true := (by simp [cardT, *]); rw [← e]; exact hQ _ (fun j h1 h2 h3 => by simp [upd, h1, h2, h3]) (fun c hc => by first | (exfalso; rw [hc] at e; simp at e; done) | (simp [cardT, *] at hc; subst hc; simp [upd, zb, *]))) | (exfalso; simp_all; done))
          · refine z_iconst (v := nI 0) d_m_isTag_65 66 rfl rfl ?_
            exact z_zretB (b := false) d_m_isTag_66 rfl (Nat.le_refl 0) (Nat.le_refl 0) (by first | (exfalso; omega) | (have e : (cardT (gB bs k) n).isSome = false := (by simp [cardT, *]); rw [← e]; exact hQ _ (fun j h1 h2 h3 => by simp [upd, h1, h2, h3]) (fun c hc => by first | (exfalso; rw [hc] at e; simp at e; done) | (simp [cardT, *] at hc; subst hc; simp [upd, zb, *]))) | (exfalso; simp_all; done))
  · refine z_iload_n d_m_isTag_6 7 rfl rfl rfl ?_
    refine z_bipush (v := nI 11) d_m_isTag_7 9 rfl rfl ?_
    refine z_icmp_eqN (tgt := 14) d_m_isTag_9 12 rfl rfl (by omega) (by omega) (fun h9 => ?_) (fun h9 => ?_)
    · refine z_aload_n d_m_isTag_14 15 rfl rfl rfl ?_
      refine z_iload_n d_m_isTag_15 16 rfl rfl rfl ?_
      refine z_iload_n d_m_isTag_16 17 rfl rfl rfl ?_
      refine z_iconst (v := nI 2) d_m_isTag_17 18 rfl rfl ?_
      first | refine z_iaddN d_m_isTag_18 19 rfl ?_ | refine z_iadd d_m_isTag_18 19 rfl ?_
      refine zm_cV1 d_m_isTag_19 22 rfl mv_m_at kl_m_40 (by decide) (fun Q' h => c_m_atG s k 2 hr (by omega) hs hl h) rfl rfl (Nat.le_of_ble_eq_true rfl) ?_
      refine z_ist4 d_m_isTag_22 24 rfl rfl ?_
      refine z_iload d_m_isTag_24 26 rfl rfl ?_
      refine z_bipush (v := nI 43) d_m_isTag_26 28 rfl rfl ?_
      refine z_icmp_eqN (tgt := 38) d_m_isTag_28 31 rfl rfl (by omega) (by omega) (fun h28 => ?_) (fun h28 => ?_)
      · refine z_aload_n d_m_isTag_38 39 rfl rfl rfl ?_
        refine z_iload_n d_m_isTag_39 40 rfl rfl rfl ?_
        refine z_iload_n d_m_isTag_40 41 rfl rfl rfl ?_
        refine z_iconst (v := nI 3) d_m_isTag_41 42 rfl rfl ?_
        first | refine z_iaddN d_m_isTag_42 43 rfl ?_ | refine z_iadd d_m_isTag_42 43 rfl ?_
        refine zm_cV1 d_m_isTag_43 46 rfl mv_m_at kl_m_40 (by decide) (fun Q' h => c_m_atG s k 3 hr (by omega) hs hl h) rfl rfl (Nat.le_of_ble_eq_true rfl) ?_
        refine zm_cS1 d_m_isTag_46 49 rfl ms_m_isDigit kl_m_70 (by decide) (fun Q' h => c_m_isDigit _ (by omega) h) rfl rfl (Nat.le_of_ble_eq_true rfl) ?_
        refine z_if_eqB (tgt := 65) d_m_isTag_49 52 rfl rfl (fun h49 => ?_) (fun h49 => ?_)
        · refine z_iconst (v := nI 0) d_m_isTag_65 66 rfl rfl ?_
          exact z_zretB (b := false) d_m_isTag_66 rfl (Nat.le_refl 0) (Nat.le_refl 0) (by first | (exfalso; omega) | (have e : (cardT (gB bs k) n).isSome = false := (by simp [cardT, *]); rw [← e]; exact hQ _ (fun j h1 h2 h3 => by simp [upd, h1, h2, h3]) (fun c hc => by first | (exfalso; rw [hc] at e; simp at e; done) | (simp [cardT, *] at hc; subst hc; simp [upd, zb, *]))) | (exfalso; simp_all; done))
        · refine z_aload_n d_m_isTag_52 53 rfl rfl rfl ?_
          refine z_iload_n d_m_isTag_53 54 rfl rfl rfl ?_
          refine z_iload_n d_m_isTag_54 55 rfl rfl rfl ?_
          refine z_iconst (v := nI 4) d_m_isTag_55 56 rfl rfl ?_
          first | refine z_iaddN d_m_isTag_56 57 rfl ?_ | refine z_iadd d_m_isTag_56 57 rfl ?_
          refine zm_cV1 d_m_isTag_57 60 rfl mv_m_at kl_m_40 (by decide) (fun Q' h => c_m_atG s k 4 hr (by omega) hs hl h) rfl rfl (Nat.le_of_ble_eq_true rfl) ?_
          refine z_bipush (v := nI 32) d_m_isTag_60 62 rfl rfl ?_
          refine z_icmp_eqN (tgt := 67) d_m_isTag_62 65 rfl rfl (by omega) (by omega) (fun h62 => ?_) (fun h62 => ?_)
          · refine z_aload_n d_m_isTag_67 68 rfl rfl rfl ?_
            refine z_iload d_m_isTag_68 70 rfl rfl ?_
            refine z_bipush (v := nI 43) d_m_isTag_70 72 rfl rfl ?_
            refine z_icmp_neN (tgt := 79) d_m_isTag_72 75 rfl rfl (by omega) (by omega) (fun h72 => ?_) (fun h72 => ?_)
            · refine z_iconst (v := nI 0) d_m_isTag_79 80 rfl rfl ?_
              refine zm_putZ 13 d_m_isTag_80 83 rfl (p_m_86 _) (by decide) (by decide) (by first | exact Or.inl rfl | exact Or.inr rfl) ?_
              refine z_aload_n d_m_isTag_83 84 rfl rfl rfl ?_
              refine z_aload_n d_m_isTag_84 85 rfl rfl rfl ?_
              refine z_iload_n d_m_isTag_85 86 rfl rfl rfl ?_
              refine z_iload_n d_m_isTag_86 87 rfl rfl rfl ?_
              refine z_iconst (v := nI 3) d_m_isTag_87 88 rfl rfl ?_
              first | refine z_iaddN d_m_isTag_88 89 rfl ?_ | refine z_iadd d_m_isTag_88 89 rfl ?_
              refine zm_cV1 d_m_isTag_89 92 rfl mv_m_at kl_m_40 (by decide) (fun Q' h => c_m_atG s k 3 hr (by omega) hs hl h) rfl rfl (Nat.le_of_ble_eq_true rfl) ?_
              refine z_bipush (v := nI 48) d_m_isTag_92 94 rfl rfl ?_
              refine z_isubN d_m_isTag_94 95 rfl (by simp [isDg] at *; omega) ?_
              refine zm_putF 12 d_m_isTag_95 98 rfl (p_m_74 _) (by decide) (by decide) ?_
              refine z_iload_n d_m_isTag_98 99 rfl rfl rfl ?_
              refine z_bipush (v := nI 6) d_m_isTag_99 101 rfl rfl ?_
              refine z_icmp_neN (tgt := 123) d_m_isTag_101 104 rfl rfl (by omega) (by omega) (fun h101 => ?_) (fun h101 => ?_)
              · refine z_aload_n d_m_isTag_123 124 rfl rfl rfl ?_
                refine z_aload_n d_m_isTag_124 125 rfl rfl rfl ?_
                refine z_iload_n d_m_isTag_125 126 rfl rfl rfl ?_
                refine z_iload_n d_m_isTag_126 127 rfl rfl rfl ?_
                refine z_iconst (v := nI 5) d_m_isTag_127 128 rfl rfl ?_
                first | refine z_iaddN d_m_isTag_128 129 rfl ?_ | refine z_iadd d_m_isTag_128 129 rfl ?_
                refine zm_cV1 d_m_isTag_129 132 rfl mv_m_nameAt kl_m_67 (by decide) (fun Q' h => c_m_nameAtG s k 5 hr (by omega) hs hl h) rfl rfl (Nat.le_of_ble_eq_true rfl) ?_
                refine zm_putF 14 d_m_isTag_132 135 rfl (p_m_58 _) (by decide) (by decide) ?_
                refine z_aload_n d_m_isTag_135 136 rfl rfl rfl ?_
                refine zm_getF 14 d_m_isTag_136 139 rfl f_m_58 rfl ?_; try simp only [pk_us, pk_un, ne_eq, Nat.reduceEqDiff, not_false_eq_true]
                refine z_if_ltO (tgt := 146) d_m_isTag_139 142 rfl rfl (fun v h => by have := nm6_lt h; omega) (fun h139 => ?_) (fun w139 h139 => ?_)
                · refine z_iconst (v := nI 0) d_m_isTag_146 147 rfl rfl ?_
                  exact z_zretB (b := false) d_m_isTag_147 rfl (Nat.le_refl 0) (Nat.le_refl 0) (by first | (exfalso; omega) | (have e : (cardT (gB bs k) n).isSome = false := (by simp [cardT, *]); rw [← e]; exact hQ _ (fun j h1 h2 h3 => by simp [upd, h1, h2, h3]) (fun c hc => by first | (exfalso; rw [hc] at e; simp at e; done) | (simp [cardT, *] at hc; subst hc; simp [upd, zb, *]))) | (exfalso; simp_all; done))
                · refine z_iconst (v := nI 1) d_m_isTag_142 143 rfl rfl ?_
                  refine z_goto (tgt := 147) d_m_isTag_143 rfl ?_
                  exact z_zretB (b := true) d_m_isTag_147 rfl (Nat.le_refl 0) (Nat.le_refl 0) (by first | (exfalso; omega) | (have e : (cardT (gB bs k) n).isSome = true := (by simp [cardT, *]); rw [← e]; exact hQ _ (fun j h1 h2 h3 => by simp [upd, h1, h2, h3]) (fun c hc => by first | (exfalso; rw [hc] at e; simp at e; done) | (simp [cardT, *] at hc; subst hc; simp [upd, zb, *]))) | (exfalso; simp_all; done))
              · refine z_aload_n d_m_isTag_104 105 rfl rfl rfl ?_
                refine z_iload_n d_m_isTag_105 106 rfl rfl rfl ?_
                refine z_iload_n d_m_isTag_106 107 rfl rfl rfl ?_
                refine z_iconst (v := nI 5) d_m_isTag_107 108 rfl rfl ?_
                first | refine z_iaddN d_m_isTag_108 109 rfl ?_ | refine z_iadd d_m_isTag_108 109 rfl ?_
                refine zm_cV1 d_m_isTag_109 112 rfl mv_m_at kl_m_40 (by decide) (fun Q' h => c_m_atG s k 5 hr (by omega) hs hl h) rfl rfl (Nat.le_of_ble_eq_true rfl) ?_
                refine z_bipush (v := nI 42) d_m_isTag_112 114 rfl rfl ?_
                refine z_icmp_neN (tgt := 121) d_m_isTag_114 117 rfl rfl (by omega) (by omega) (fun h114 => ?_) (fun h114 => ?_)
                · refine z_iconst (v := nI 0) d_m_isTag_121 122 rfl rfl ?_
                  exact z_zretB (b := false) d_m_isTag_122 rfl (Nat.le_refl 0) (Nat.le_refl 0) (by first | (exfalso; omega) | (have e : (cardT (gB bs k) n).isSome = false := (by simp [cardT, *]); rw [← e]; exact hQ _ (fun j h1 h2 h3 => by simp [upd, h1, h2, h3]) (fun c hc => by first | (exfalso; rw [hc] at e; simp at e; done) | (simp [cardT, *] at hc; subst hc; simp [upd, zb, *]))) | (exfalso; simp_all; done))
                · refine z_iconst (v := nI 1) d_m_isTag_117 118 rfl rfl ?_
                  refine z_goto (tgt := 122) d_m_isTag_118 rfl ?_
                  exact z_zretB (b := true) d_m_isTag_122 rfl (Nat.le_refl 0) (Nat.le_refl 0) (by first | (exfalso; omega) | (have e : (cardT (gB bs k) n).isSome = true := (by simp [cardT, *]); rw [← e]; exact hQ _ (fun j h1 h2 h3 => by simp [upd, h1, h2, h3]) (fun c hc => by first | (exfalso; rw [hc] at e; simp at e; done) | (simp [cardT, *] at hc; subst hc; simp [upd, zb, *]))) | (exfalso; simp_all; done))
            · refine z_iconst (v := nI 1) d_m_isTag_75 76 rfl rfl ?_
              refine z_goto (tgt := 80) d_m_isTag_76 rfl ?_
              refine zm_putZ 13 d_m_isTag_80 83 rfl (p_m_86 _) (by decide) (by decide) (by first | exact Or.inl rfl | exact Or.inr rfl) ?_
              refine z_aload_n d_m_isTag_83 84 rfl rfl rfl ?_
              refine z_aload_n d_m_isTag_84 85 rfl rfl rfl ?_
              refine z_iload_n d_m_isTag_85 86 rfl rfl rfl ?_
              refine z_iload_n d_m_isTag_86 87 rfl rfl rfl ?_
              refine z_iconst (v := nI 3) d_m_isTag_87 88 rfl rfl ?_
              first | refine z_iaddN d_m_isTag_88 89 rfl ?_ | refine z_iadd d_m_isTag_88 89 rfl ?_
              refine zm_cV1 d_m_isTag_89 92 rfl mv_m_at kl_m_40 (by decide) (fun Q' h => c_m_atG s k 3 hr (by omega) hs hl h) rfl rfl (Nat.le_of_ble_eq_true rfl) ?_
              refine z_bipush (v := nI 48) d_m_isTag_92 94 rfl rfl ?_
              refine z_isubN d_m_isTag_94 95 rfl (by simp [isDg] at *; omega) ?_
              refine zm_putF 12 d_m_isTag_95 98 rfl (p_m_74 _) (by decide) (by decide) ?_
              refine z_iload_n d_m_isTag_98 99 rfl rfl rfl ?_
              refine z_bipush (v := nI 6) d_m_isTag_99 101 rfl rfl ?_
              refine z_icmp_neN (tgt := 123) d_m_isTag_101 104 rfl rfl (by omega) (by omega) (fun h101 => ?_) (fun h101 => ?_)
              · refine z_aload_n d_m_isTag_123 124 rfl rfl rfl ?_
                refine z_aload_n d_m_isTag_124 125 rfl rfl rfl ?_
                refine z_iload_n d_m_isTag_125 126 rfl rfl rfl ?_
                refine z_iload_n d_m_isTag_126 127 rfl rfl rfl ?_
                refine z_iconst (v := nI 5) d_m_isTag_127 128 rfl rfl ?_
                first | refine z_iaddN d_m_isTag_128 129 rfl ?_ | refine z_iadd d_m_isTag_128 129 rfl ?_
                refine zm_cV1 d_m_isTag_129 132 rfl mv_m_nameAt kl_m_67 (by decide) (fun Q' h => c_m_nameAtG s k 5 hr (by omega) hs hl h) rfl rfl (Nat.le_of_ble_eq_true rfl) ?_
                refine zm_putF 14 d_m_isTag_132 135 rfl (p_m_58 _) (by decide) (by decide) ?_
                refine z_aload_n d_m_isTag_135 136 rfl rfl rfl ?_
                refine zm_getF 14 d_m_isTag_136 139 rfl f_m_58 rfl ?_; try simp only [pk_us, pk_un, ne_eq, Nat.reduceEqDiff, not_false_eq_true]
                refine z_if_ltO (tgt := 146) d_m_isTag_139 142 rfl rfl (fun v h => by have := nm6_lt h; omega) (fun h139 => ?_) (fun w139 h139 => ?_)
                · refine z_iconst (v := nI 0) d_m_isTag_146 147 rfl rfl ?_
                  exact z_zretB (b := false) d_m_isTag_147 rfl (Nat.le_refl 0) (Nat.le_refl 0) (by first | (exfalso; omega) | (have e : (cardT (gB bs k) n).isSome = false := (by simp [cardT, *]); rw [← e]; exact hQ _ (fun j h1 h2 h3 => by simp [upd, h1, h2, h3]) (fun c hc => by first | (exfalso; rw [hc] at e; simp at e; done) | (simp [cardT, *] at hc; subst hc; simp [upd, zb, *]))) | (exfalso; simp_all; done))
                · refine z_iconst (v := nI 1) d_m_isTag_142 143 rfl rfl ?_
                  refine z_goto (tgt := 147) d_m_isTag_143 rfl ?_
                  exact z_zretB (b := true) d_m_isTag_147 rfl (Nat.le_refl 0) (Nat.le_refl 0) (by first | (exfalso; omega) | (have e : (cardT (gB bs k) n).isSome = true := (by simp [cardT, *]); rw [← e]; exact hQ _ (fun j h1 h2 h3 => by simp [upd, h1, h2, h3]) (fun c hc => by first | (exfalso; rw [hc] at e; simp at e; done) | (simp [cardT, *] at hc; subst hc; simp [upd, zb, *]))) | (exfalso; simp_all; done))
              · refine z_aload_n d_m_isTag_104 105 rfl rfl rfl ?_
                refine z_iload_n d_m_isTag_105 106 rfl rfl rfl ?_
                refine z_iload_n d_m_isTag_106 107 rfl rfl rfl ?_
                refine z_iconst (v := nI 5) d_m_isTag_107 108 rfl rfl ?_
                first | refine z_iaddN d_m_isTag_108 109 rfl ?_ | refine z_iadd d_m_isTag_108 109 rfl ?_
                refine zm_cV1 d_m_isTag_109 112 rfl mv_m_at kl_m_40 (by decide) (fun Q' h => c_m_atG s k 5 hr (by omega) hs hl h) rfl rfl (Nat.le_of_ble_eq_true rfl) ?_
                refine z_bipush (v := nI 42) d_m_isTag_112 114 rfl rfl ?_
                refine z_icmp_neN (tgt := 121) d_m_isTag_114 117 rfl rfl (by omega) (by omega) (fun h114 => ?_) (fun h114 => ?_)
                · refine z_iconst (v := nI 0) d_m_isTag_121 122 rfl rfl ?_
                  exact z_zretB (b := false) d_m_isTag_122 rfl (Nat.le_refl 0) (Nat.le_refl 0) (by first | (exfalso; omega) | (have e : (cardT (gB bs k) n).isSome = false := (by simp [cardT, *]); rw [← e]; exact hQ _ (fun j h1 h2 h3 => by simp [upd, h1, h2, h3]) (fun c hc => by first | (exfalso; rw [hc] at e; simp at e; done) | (simp [cardT, *] at hc; subst hc; simp [upd, zb, *]))) | (exfalso; simp_all; done))
                · refine z_iconst (v := nI 1) d_m_isTag_117 118 rfl rfl ?_
                  refine z_goto (tgt := 122) d_m_isTag_118 rfl ?_
                  exact z_zretB (b := true) d_m_isTag_122 rfl (Nat.le_refl 0) (Nat.le_refl 0) (by first | (exfalso; omega) | (have e : (cardT (gB bs k) n).isSome = true := (by simp [cardT, *]); rw [← e]; exact hQ _ (fun j h1 h2 h3 => by simp [upd, h1, h2, h3]) (fun c hc => by first | (exfalso; rw [hc] at e; simp at e; done) | (simp [cardT, *] at hc; subst hc; simp [upd, zb, *]))) | (exfalso; simp_all; done))
          · refine z_iconst (v := nI 0) d_m_isTag_65 66 rfl rfl ?_
            exact z_zretB (b := false) d_m_isTag_66 rfl (Nat.le_refl 0) (Nat.le_refl 0) (by first | (exfalso; omega) | (have e : (cardT (gB bs k) n).isSome = false := (by simp [cardT, *]); rw [← e]; exact hQ _ (fun j h1 h2 h3 => by simp [upd, h1, h2, h3]) (fun c hc => by first | (exfalso; rw [hc] at e; simp at e; done) | (simp [cardT, *] at hc; subst hc; simp [upd, zb, *]))) | (exfalso; simp_all; done))
      · refine z_iload d_m_isTag_31 33 rfl rfl ?_
        refine z_bipush (v := nI 45) d_m_isTag_33 35 rfl rfl ?_
        refine z_icmp_neN (tgt := 65) d_m_isTag_35 38 rfl rfl (by omega) (by omega) (fun h35 => ?_) (fun h35 => ?_)
        · refine z_iconst (v := nI 0) d_m_isTag_65 66 rfl rfl ?_
          exact z_zretB (b := false) d_m_isTag_66 rfl (Nat.le_refl 0) (Nat.le_refl 0) (by first | (exfalso; omega) | (have e : (cardT (gB bs k) n).isSome = false := (by simp [cardT, *]); rw [← e]; exact hQ _ (fun j h1 h2 h3 => by simp [upd, h1, h2, h3]) (fun c hc => by first | (exfalso; rw [hc] at e; simp at e; done) | (simp [cardT, *] at hc; subst hc; simp [upd, zb, *]))) | (exfalso; simp_all; done))
        · refine z_aload_n d_m_isTag_38 39 rfl rfl rfl ?_
          refine z_iload_n d_m_isTag_39 40 rfl rfl rfl ?_
          refine z_iload_n d_m_isTag_40 41 rfl rfl rfl ?_
          refine z_iconst (v := nI 3) d_m_isTag_41 42 rfl rfl ?_
          first | refine z_iaddN d_m_isTag_42 43 rfl ?_ | refine z_iadd d_m_isTag_42 43 rfl ?_
          refine zm_cV1 d_m_isTag_43 46 rfl mv_m_at kl_m_40 (by decide) (fun Q' h => c_m_atG s k 3 hr (by omega) hs hl h) rfl rfl (Nat.le_of_ble_eq_true rfl) ?_
          refine zm_cS1 d_m_isTag_46 49 rfl ms_m_isDigit kl_m_70 (by decide) (fun Q' h => c_m_isDigit _ (by omega) h) rfl rfl (Nat.le_of_ble_eq_true rfl) ?_
          refine z_if_eqB (tgt := 65) d_m_isTag_49 52 rfl rfl (fun h49 => ?_) (fun h49 => ?_)
          · refine z_iconst (v := nI 0) d_m_isTag_65 66 rfl rfl ?_
            exact z_zretB (b := false) d_m_isTag_66 rfl (Nat.le_refl 0) (Nat.le_refl 0) (by first | (exfalso; omega) | (have e : (cardT (gB bs k) n).isSome = false := (by simp [cardT, *]); rw [← e]; exact hQ _ (fun j h1 h2 h3 => by simp [upd, h1, h2, h3]) (fun c hc => by first | (exfalso; rw [hc] at e; simp at e; done) | (simp [cardT, *] at hc; subst hc; simp [upd, zb, *]))) | (exfalso; simp_all; done))
          · refine z_aload_n d_m_isTag_52 53 rfl rfl rfl ?_
            refine z_iload_n d_m_isTag_53 54 rfl rfl rfl ?_
            refine z_iload_n d_m_isTag_54 55 rfl rfl rfl ?_
            refine z_iconst (v := nI 4) d_m_isTag_55 56 rfl rfl ?_
            first | refine z_iaddN d_m_isTag_56 57 rfl ?_ | refine z_iadd d_m_isTag_56 57 rfl ?_
            refine zm_cV1 d_m_isTag_57 60 rfl mv_m_at kl_m_40 (by decide) (fun Q' h => c_m_atG s k 4 hr (by omega) hs hl h) rfl rfl (Nat.le_of_ble_eq_true rfl) ?_
            refine z_bipush (v := nI 32) d_m_isTag_60 62 rfl rfl ?_
            refine z_icmp_eqN (tgt := 67) d_m_isTag_62 65 rfl rfl (by omega) (by omega) (fun h62 => ?_) (fun h62 => ?_)
            · refine z_aload_n d_m_isTag_67 68 rfl rfl rfl ?_
              refine z_iload d_m_isTag_68 70 rfl rfl ?_
              refine z_bipush (v := nI 43) d_m_isTag_70 72 rfl rfl ?_
              refine z_icmp_neN (tgt := 79) d_m_isTag_72 75 rfl rfl (by omega) (by omega) (fun h72 => ?_) (fun h72 => ?_)
              · refine z_iconst (v := nI 0) d_m_isTag_79 80 rfl rfl ?_
                refine zm_putZ 13 d_m_isTag_80 83 rfl (p_m_86 _) (by decide) (by decide) (by first | exact Or.inl rfl | exact Or.inr rfl) ?_
                refine z_aload_n d_m_isTag_83 84 rfl rfl rfl ?_
                refine z_aload_n d_m_isTag_84 85 rfl rfl rfl ?_
                refine z_iload_n d_m_isTag_85 86 rfl rfl rfl ?_
                refine z_iload_n d_m_isTag_86 87 rfl rfl rfl ?_
                refine z_iconst (v := nI 3) d_m_isTag_87 88 rfl rfl ?_
                first | refine z_iaddN d_m_isTag_88 89 rfl ?_ | refine z_iadd d_m_isTag_88 89 rfl ?_
                refine zm_cV1 d_m_isTag_89 92 rfl mv_m_at kl_m_40 (by decide) (fun Q' h => c_m_atG s k 3 hr (by omega) hs hl h) rfl rfl (Nat.le_of_ble_eq_true rfl) ?_
                refine z_bipush (v := nI 48) d_m_isTag_92 94 rfl rfl ?_
                refine z_isubN d_m_isTag_94 95 rfl (by simp [isDg] at *; omega) ?_
                refine zm_putF 12 d_m_isTag_95 98 rfl (p_m_74 _) (by decide) (by decide) ?_
                refine z_iload_n d_m_isTag_98 99 rfl rfl rfl ?_
                refine z_bipush (v := nI 6) d_m_isTag_99 101 rfl rfl ?_
                refine z_icmp_neN (tgt := 123) d_m_isTag_101 104 rfl rfl (by omega) (by omega) (fun h101 => ?_) (fun h101 => ?_)
                · refine z_aload_n d_m_isTag_123 124 rfl rfl rfl ?_
                  refine z_aload_n d_m_isTag_124 125 rfl rfl rfl ?_
                  refine z_iload_n d_m_isTag_125 126 rfl rfl rfl ?_
                  refine z_iload_n d_m_isTag_126 127 rfl rfl rfl ?_
                  refine z_iconst (v := nI 5) d_m_isTag_127 128 rfl rfl ?_
                  first | refine z_iaddN d_m_isTag_128 129 rfl ?_ | refine z_iadd d_m_isTag_128 129 rfl ?_
                  refine zm_cV1 d_m_isTag_129 132 rfl mv_m_nameAt kl_m_67 (by decide) (fun Q' h => c_m_nameAtG s k 5 hr (by omega) hs hl h) rfl rfl (Nat.le_of_ble_eq_true rfl) ?_
                  refine zm_putF 14 d_m_isTag_132 135 rfl (p_m_58 _) (by decide) (by decide) ?_
                  refine z_aload_n d_m_isTag_135 136 rfl rfl rfl ?_
                  refine zm_getF 14 d_m_isTag_136 139 rfl f_m_58 rfl ?_; try simp only [pk_us, pk_un, ne_eq, Nat.reduceEqDiff, not_false_eq_true]
                  refine z_if_ltO (tgt := 146) d_m_isTag_139 142 rfl rfl (fun v h => by have := nm6_lt h; omega) (fun h139 => ?_) (fun w139 h139 => ?_)
                  · refine z_iconst (v := nI 0) d_m_isTag_146 147 rfl rfl ?_
                    exact z_zretB (b := false) d_m_isTag_147 rfl (Nat.le_refl 0) (Nat.le_refl 0) (by first | (exfalso; omega) | (have e : (cardT (gB bs k) n).isSome = false := (by simp [cardT, *]); rw [← e]; exact hQ _ (fun j h1 h2 h3 => by simp [upd, h1, h2, h3]) (fun c hc => by first | (exfalso; rw [hc] at e; simp at e; done) | (simp [cardT, *] at hc; subst hc; simp [upd, zb, *]))) | (exfalso; simp_all; done))
                  · refine z_iconst (v := nI 1) d_m_isTag_142 143 rfl rfl ?_
                    refine z_goto (tgt := 147) d_m_isTag_143 rfl ?_
                    exact z_zretB (b := true) d_m_isTag_147 rfl (Nat.le_refl 0) (Nat.le_refl 0) (by first | (exfalso; omega) | (have e : (cardT (gB bs k) n).isSome = true := (by simp [cardT, *]); rw [← e]; exact hQ _ (fun j h1 h2 h3 => by simp [upd, h1, h2, h3]) (fun c hc => by first | (exfalso; rw [hc] at e; simp at e; done) | (simp [cardT, *] at hc; subst hc; simp [upd, zb, *]))) | (exfalso; simp_all; done))
                · refine z_aload_n d_m_isTag_104 105 rfl rfl rfl ?_
                  refine z_iload_n d_m_isTag_105 106 rfl rfl rfl ?_
                  refine z_iload_n d_m_isTag_106 107 rfl rfl rfl ?_
                  refine z_iconst (v := nI 5) d_m_isTag_107 108 rfl rfl ?_
                  first | refine z_iaddN d_m_isTag_108 109 rfl ?_ | refine z_iadd d_m_isTag_108 109 rfl ?_
                  refine zm_cV1 d_m_isTag_109 112 rfl mv_m_at kl_m_40 (by decide) (fun Q' h => c_m_atG s k 5 hr (by omega) hs hl h) rfl rfl (Nat.le_of_ble_eq_true rfl) ?_
                  refine z_bipush (v := nI 42) d_m_isTag_112 114 rfl rfl ?_
                  refine z_icmp_neN (tgt := 121) d_m_isTag_114 117 rfl rfl (by omega) (by omega) (fun h114 => ?_) (fun h114 => ?_)
                  · refine z_iconst (v := nI 0) d_m_isTag_121 122 rfl rfl ?_
                    exact z_zretB (b := false) d_m_isTag_122 rfl (Nat.le_refl 0) (Nat.le_refl 0) (by first | (exfalso; omega) | (have e : (cardT (gB bs k) n).isSome = false := (by simp [cardT, *]); rw [← e]; exact hQ _ (fun j h1 h2 h3 => by simp [upd, h1, h2, h3]) (fun c hc => by first | (exfalso; rw [hc] at e; simp at e; done) | (simp [cardT, *] at hc; subst hc; simp [upd, zb, *]))) | (exfalso; simp_all; done))
                  · refine z_iconst (v := nI 1) d_m_isTag_117 118 rfl rfl ?_
                    refine z_goto (tgt := 122) d_m_isTag_118 rfl ?_
                    exact z_zretB (b := true) d_m_isTag_122 rfl (Nat.le_refl 0) (Nat.le_refl 0) (by first | (exfalso; omega) | (have e : (cardT (gB bs k) n).isSome = true := (by simp [cardT, *]); rw [← e]; exact hQ _ (fun j h1 h2 h3 => by simp [upd, h1, h2, h3]) (fun c hc => by first | (exfalso; rw [hc] at e; simp at e; done) | (simp [cardT, *] at hc; subst hc; simp [upd, zb, *]))) | (exfalso; simp_all; done))
              · refine z_iconst (v := nI 1) d_m_isTag_75 76 rfl rfl ?_
                refine z_goto (tgt := 80) d_m_isTag_76 rfl ?_
                refine zm_putZ 13 d_m_isTag_80 83 rfl (p_m_86 _) (by decide) (by decide) (by first | exact Or.inl rfl | exact Or.inr rfl) ?_
                refine z_aload_n d_m_isTag_83 84 rfl rfl rfl ?_
                refine z_aload_n d_m_isTag_84 85 rfl rfl rfl ?_
                refine z_iload_n d_m_isTag_85 86 rfl rfl rfl ?_
                refine z_iload_n d_m_isTag_86 87 rfl rfl rfl ?_
                refine z_iconst (v := nI 3) d_m_isTag_87 88 rfl rfl ?_
                first | refine z_iaddN d_m_isTag_88 89 rfl ?_ | refine z_iadd d_m_isTag_88 89 rfl ?_
                refine zm_cV1 d_m_isTag_89 92 rfl mv_m_at kl_m_40 (by decide) (fun Q' h => c_m_atG s k 3 hr (by omega) hs hl h) rfl rfl (Nat.le_of_ble_eq_true rfl) ?_
                refine z_bipush (v := nI 48) d_m_isTag_92 94 rfl rfl ?_
                refine z_isubN d_m_isTag_94 95 rfl (by simp [isDg] at *; omega) ?_
                refine zm_putF 12 d_m_isTag_95 98 rfl (p_m_74 _) (by decide) (by decide) ?_
                refine z_iload_n d_m_isTag_98 99 rfl rfl rfl ?_
                refine z_bipush (v := nI 6) d_m_isTag_99 101 rfl rfl ?_
                refine z_icmp_neN (tgt := 123) d_m_isTag_101 104 rfl rfl (by omega) (by omega) (fun h101 => ?_) (fun h101 => ?_)
                · refine z_aload_n d_m_isTag_123 124 rfl rfl rfl ?_
                  refine z_aload_n d_m_isTag_124 125 rfl rfl rfl ?_
                  refine z_iload_n d_m_isTag_125 126 rfl rfl rfl ?_
                  refine z_iload_n d_m_isTag_126 127 rfl rfl rfl ?_
                  refine z_iconst (v := nI 5) d_m_isTag_127 128 rfl rfl ?_
                  first | refine z_iaddN d_m_isTag_128 129 rfl ?_ | refine z_iadd d_m_isTag_128 129 rfl ?_
                  refine zm_cV1 d_m_isTag_129 132 rfl mv_m_nameAt kl_m_67 (by decide) (fun Q' h => c_m_nameAtG s k 5 hr (by omega) hs hl h) rfl rfl (Nat.le_of_ble_eq_true rfl) ?_
                  refine zm_putF 14 d_m_isTag_132 135 rfl (p_m_58 _) (by decide) (by decide) ?_
                  refine z_aload_n d_m_isTag_135 136 rfl rfl rfl ?_
                  refine zm_getF 14 d_m_isTag_136 139 rfl f_m_58 rfl ?_; try simp only [pk_us, pk_un, ne_eq, Nat.reduceEqDiff, not_false_eq_true]
                  refine z_if_ltO (tgt := 146) d_m_isTag_139 142 rfl rfl (fun v h => by have := nm6_lt h; omega) (fun h139 => ?_) (fun w139 h139 => ?_)
                  · refine z_iconst (v := nI 0) d_m_isTag_146 147 rfl rfl ?_
                    exact z_zretB (b := false) d_m_isTag_147 rfl (Nat.le_refl 0) (Nat.le_refl 0) (by first | (exfalso; omega) | (have e : (cardT (gB bs k) n).isSome = false := (by simp [cardT, *]); rw [← e]; exact hQ _ (fun j h1 h2 h3 => by simp [upd, h1, h2, h3]) (fun c hc => by first | (exfalso; rw [hc] at e; simp at e; done) | (simp [cardT, *] at hc; subst hc; simp [upd, zb, *]))) | (exfalso; simp_all; done))
                  · refine z_iconst (v := nI 1) d_m_isTag_142 143 rfl rfl ?_
                    refine z_goto (tgt := 147) d_m_isTag_143 rfl ?_
                    exact z_zretB (b := true) d_m_isTag_147 rfl (Nat.le_refl 0) (Nat.le_refl 0) (by first | (exfalso; omega) | (have e : (cardT (gB bs k) n).isSome = true := (by simp [cardT, *]); rw [← e]; exact hQ _ (fun j h1 h2 h3 => by simp [upd, h1, h2, h3]) (fun c hc => by first | (exfalso; rw [hc] at e; simp at e; done) | (simp [cardT, *] at hc; subst hc; simp [upd, zb, *]))) | (exfalso; simp_all; done))
                · refine z_aload_n d_m_isTag_104 105 rfl rfl rfl ?_
                  refine z_iload_n d_m_isTag_105 106 rfl rfl rfl ?_
                  refine z_iload_n d_m_isTag_106 107 rfl rfl rfl ?_
                  refine z_iconst (v := nI 5) d_m_isTag_107 108 rfl rfl ?_
                  first | refine z_iaddN d_m_isTag_108 109 rfl ?_ | refine z_iadd d_m_isTag_108 109 rfl ?_
                  refine zm_cV1 d_m_isTag_109 112 rfl mv_m_at kl_m_40 (by decide) (fun Q' h => c_m_atG s k 5 hr (by omega) hs hl h) rfl rfl (Nat.le_of_ble_eq_true rfl) ?_
                  refine z_bipush (v := nI 42) d_m_isTag_112 114 rfl rfl ?_
                  refine z_icmp_neN (tgt := 121) d_m_isTag_114 117 rfl rfl (by omega) (by omega) (fun h114 => ?_) (fun h114 => ?_)
                  · refine z_iconst (v := nI 0) d_m_isTag_121 122 rfl rfl ?_
                    exact z_zretB (b := false) d_m_isTag_122 rfl (Nat.le_refl 0) (Nat.le_refl 0) (by first | (exfalso; omega) | (have e : (cardT (gB bs k) n).isSome = false := (by simp [cardT, *]); rw [← e]; exact hQ _ (fun j h1 h2 h3 => by simp [upd, h1, h2, h3]) (fun c hc => by first | (exfalso; rw [hc] at e; simp at e; done) | (simp [cardT, *] at hc; subst hc; simp [upd, zb, *]))) | (exfalso; simp_all; done))
                  · refine z_iconst (v := nI 1) d_m_isTag_117 118 rfl rfl ?_
                    refine z_goto (tgt := 122) d_m_isTag_118 rfl ?_
                    exact z_zretB (b := true) d_m_isTag_122 rfl (Nat.le_refl 0) (Nat.le_refl 0) (by first | (exfalso; omega) | (have e : (cardT (gB bs k) n).isSome = true := (by simp [cardT, *]); rw [← e]; exact hQ _ (fun j h1 h2 h3 => by simp [upd, h1, h2, h3]) (fun c hc => by first | (exfalso; rw [hc] at e; simp at e; done) | (simp [cardT, *] at hc; subst hc; simp [upd, zb, *]))) | (exfalso; simp_all; done))
            · refine z_iconst (v := nI 0) d_m_isTag_65 66 rfl rfl ?_
              exact z_zretB (b := false) d_m_isTag_66 rfl (Nat.le_refl 0) (Nat.le_refl 0) (by first | (exfalso; omega) | (have e : (cardT (gB bs k) n).isSome = false := (by simp [cardT, *]); rw [← e]; exact hQ _ (fun j h1 h2 h3 => by simp [upd, h1, h2, h3]) (fun c hc => by first | (exfalso; rw [hc] at e; simp at e; done) | (simp [cardT, *] at hc; subst hc; simp [upd, zb, *]))) | (exfalso; simp_all; done))
    · refine z_iconst (v := nI 0) d_m_isTag_12 13 rfl rfl ?_
      exact z_zretB (b := false) d_m_isTag_13 rfl (Nat.le_refl 0) (Nat.le_refl 0) (by first | (exfalso; omega) | (have e : (cardT (gB bs k) n).isSome = false := (by simp [cardT, *]); rw [← e]; exact hQ _ (fun j h1 h2 h3 => by simp [upd, h1, h2, h3]) (fun c hc => by first | (exfalso; rw [hc] at e; simp at e; done) | (simp [cardT, *] at hc; subst hc; simp [upd, zb, *]))) | (exfalso; simp_all; done))
end M2
end
section
/-! The reference: numbers, cards, lines. Own work. -/
theorem nuF_lt (g : Nat → Nat) : ∀ (c k v : Nat), dgF g k c = true → nuF g k c v < 10 ^ c * (v + 1) := by
  intro c
  induction c with
  | zero => intro k v _; simp [nuF]
  | succ c ih =>
    intro k v h
    simp only [dgF, Bool.and_eq_true, isDg, decide_eq_true_eq] at h
    have h1 := ih (k + 1) (10 * v + (g k - 48)) h.2
    calc nuF g k (c + 1) v < 10 ^ c * (10 * v + (g k - 48) + 1) := h1
      _ ≤ 10 ^ c * (10 * (v + 1)) := Nat.mul_le_mul_left _ (by omega)
      _ = 10 ^ (c + 1) * (v + 1) := by rw [Nat.pow_succ, Nat.mul_assoc]
section M3
variable {l : Launch} {D : zD} {hp : zH} {o : Nat} {va : Nat → Nat → Int32} {vf : Nat → Int32} {Q : Option Value → zH → Prop}
theorem c_m_isNumber (s k n : Nat) {bs : List Nat} (hr : zrow va s bs) (hn : 3 ≤ n) (hk : k + n ≤ bs.length) (hs : s < 66) (hl : bs.length ≤ 240)
    (hQ : ∀ vf' : Nat → Int32, (∀ j, j ≠ 16 → vf' j = vf j) → (∀ c, cardD (gB bs k) n = some c → vf' 16 = nI c.2.2.2.2.2) → Q (some (.int (zb (cardD (gB bs k) n).isSome))) (zmod D o hp va vf')) :
    Runs l D M_m_isNumber [.ref o, .int (nI s), .int (nI (k + 2)), .int (nI (n - 2))] (zmod D o hp va vf) 0 0 Q := by
  refine Runs.of rfl rfl (Nat.le_of_ble_eq_true rfl) ?_
  have hlt := gB_lt hr k
  have hlt2 := hlt 2
  have bad : cardD (gB bs k) n = none → Q (some (.int (zb false))) (zmod D o hp va vf) := fun h => by
    have := hQ vf (fun _ _ => rfl) (fun c hc => by rw [h] at hc; cases hc)
    rw [h] at this
    exact this
  have loop : n ≤ 6 → ¬ (3 < n ∧ gB bs k 2 = 48) → ∀ (c j v : Nat) (b : Bool) (x : Int32) (z : Option Value), j + c = n → 2 ≤ j → (b = true → x = nI v ∧ v < 10 ^ (6 - c) ∧ dgF (gB bs k) 2 (n - 2) = dgF (gB bs k) j c ∧ nuF (gB bs k) 2 (n - 2) 0 = nuF (gB bs k) j c v) → (b = false → dgF (gB bs k) 2 (n - 2) = false) → Z l D M_m_isNumber 0 0 Q (zmod D o hp va (upd vf 16 x)) 0 0 34 [some (.ref o), some (.int (nI s)), some (.int (nI (k + 2))), some (.int (nI (n - 2))), some (.int (zb b)), some (.int (nI (k + j)))] [] := by
    intro h6 h48 c
    induction c with
    | zero =>
      intro j v b x z hj h2 hb1 hb2
      refine z_iload d_m_isNumber_34 36 rfl rfl ?_
      refine z_iload_n d_m_isNumber_36 37 rfl rfl rfl ?_
      refine z_iload_n d_m_isNumber_37 38 rfl rfl rfl ?_
      first | refine z_iaddN d_m_isNumber_38 39 rfl ?_ | refine z_iadd d_m_isNumber_38 39 rfl ?_
      refine z_icmp_geN (tgt := 95) d_m_isNumber_39 42 rfl rfl (by omega) (by omega) (fun h39 => ?_) (fun h39 => ?_)
      · refine z_iload d_m_isNumber_95 97 rfl rfl ?_
        have e : (cardD (gB bs k) n).isSome = b := by
          cases b with
          | true => have := (hb1 rfl).2.2.1; simp [dgF] at this; simp [cardD, this, h6]; omega
          | false => simp [cardD, hb2 rfl]
        rw [← e]
        exact z_zretB d_m_isNumber_97 rfl (Nat.le_refl 0) (Nat.le_refl 0) (hQ _ (fun j h => by simp [upd, h]) (fun c hc => by cases b with | true => (simp [cardD] at hc; obtain ⟨-, rfl⟩ := hc; have := (hb1 rfl); simp [upd, this.1, this.2.2.2, nuF]) | false => (exfalso; rw [hc] at e; simp at e)))
      · omega
    | succ c ih =>
      intro j v b x z hj h2 hb1 hb2
      have hg := hlt j
      have join : ∀ b', b' = (b && isDg (gB bs k j)) → Z l D M_m_isNumber 0 0 Q (zmod D o hp va (upd vf 16 x)) 0 0 65 [some (.ref o), some (.int (nI s)), some (.int (nI (k + 2))), some (.int (nI (n - 2))), some (.int (zb b)), some (.int (nI (k + j)))] [.int (zb b')] := by
        intro b' hb'
        cases b' with
        | true =>
          have hbb := (Bool.and_eq_true_iff.mp hb'.symm).1
          have hdd := (Bool.and_eq_true_iff.mp hb'.symm).2
          obtain ⟨rfl, hv, e1, e2⟩ := hb1 hbb
          have hd2 := hdd
          simp only [isDg, Bool.and_eq_true, decide_eq_true_eq] at hd2
          have h10 : 10 ^ (6 - c) = 10 ^ (6 - (c + 1)) * 10 := by rw [← Nat.pow_succ]; congr 1; omega
          have h11 : 10 ^ (6 - c) ≤ 10 ^ 6 := Nat.pow_le_pow_right (by decide) (by omega)
          refine z_ist4 d_m_isNumber_65 67 rfl rfl ?_
          refine z_aload_n d_m_isNumber_67 68 rfl rfl rfl ?_
          refine z_bipush (v := nI 10) d_m_isNumber_68 70 rfl rfl ?_
          refine z_aload_n d_m_isNumber_70 71 rfl rfl rfl ?_
          refine zm_getF 16 d_m_isNumber_71 74 rfl f_m_83 rfl ?_; try simp only [pk_us, pk_un, ne_eq, Nat.reduceEqDiff, not_false_eq_true]
          first | refine z_imulN d_m_isNumber_74 75 rfl ?_ | refine z_imul d_m_isNumber_74 75 rfl ?_
          refine z_aload_n d_m_isNumber_75 76 rfl rfl rfl ?_
          refine z_iload_n d_m_isNumber_76 77 rfl rfl rfl ?_
          refine z_iload d_m_isNumber_77 79 rfl rfl ?_
          refine zm_cV1 d_m_isNumber_79 82 rfl mv_m_at kl_m_40 (by decide) (fun Q' h => c_m_atG s k j hr (by omega) hs hl h) rfl rfl (Nat.le_of_ble_eq_true rfl) ?_
          first | refine z_iaddN d_m_isNumber_82 83 rfl ?_ | refine z_iadd d_m_isNumber_82 83 rfl ?_
          refine z_bipush (v := nI 48) d_m_isNumber_83 85 rfl rfl ?_
          refine z_isubN d_m_isNumber_85 86 rfl (by omega) ?_
          refine zm_putF 16 d_m_isNumber_86 89 rfl (p_m_83 _) (by decide) (by decide) ?_
          rw [show upd (upd vf 16 (nI v)) 16 (nI (10 * v + gB bs k j - 48)) = upd vf 16 (nI (10 * v + gB bs k j - 48)) by funext q; simp only [upd]; split <;> rfl]
          first | refine z_incN5 d_m_isNumber_89 92 rfl rfl ?_ | refine z_inc5 d_m_isNumber_89 92 rfl rfl rfl ?_
          refine z_goto (tgt := 34) d_m_isNumber_92 rfl ?_
          exact ih (j + 1) (10 * v + gB bs k j - 48) true _ z (by omega) (by omega) (fun _ => ⟨rfl, by omega, by rw [e1]; simp only [dgF, hdd, Bool.true_and], by rw [e2]; simp only [nuF]; congr 1; omega⟩) (fun h => by cases h)
        | false =>
          have hF : dgF (gB bs k) 2 (n - 2) = false := by
            cases b with
            | true => rw [(hb1 rfl).2.2.1]; simp only [dgF]; rw [Bool.true_and] at hb'; rw [← hb']; rfl
            | false => exact hb2 rfl
          refine z_ist4 d_m_isNumber_65 67 rfl rfl ?_
          refine z_aload_n d_m_isNumber_67 68 rfl rfl rfl ?_
          refine z_bipush (v := nI 10) d_m_isNumber_68 70 rfl rfl ?_
          refine z_aload_n d_m_isNumber_70 71 rfl rfl rfl ?_
          refine zm_getF 16 d_m_isNumber_71 74 rfl f_m_83 rfl ?_; try simp only [pk_us, pk_un, ne_eq, Nat.reduceEqDiff, not_false_eq_true]
          refine z_imul d_m_isNumber_74 75 rfl ?_
          refine z_aload_n d_m_isNumber_75 76 rfl rfl rfl ?_
          refine z_iload_n d_m_isNumber_76 77 rfl rfl rfl ?_
          refine z_iload d_m_isNumber_77 79 rfl rfl ?_
          refine zm_cV1 d_m_isNumber_79 82 rfl mv_m_at kl_m_40 (by decide) (fun Q' h => c_m_atG s k j hr (by omega) hs hl h) rfl rfl (Nat.le_of_ble_eq_true rfl) ?_
          refine z_iadd d_m_isNumber_82 83 rfl ?_
          refine z_bipush (v := nI 48) d_m_isNumber_83 85 rfl rfl ?_
          refine z_isub d_m_isNumber_85 86 rfl ?_
          refine zm_putF 16 d_m_isNumber_86 89 rfl (p_m_83 _) (by decide) (by decide) ?_
          rw [show ∀ y, upd (upd vf 16 x) 16 y = upd vf 16 y by intro y; funext q; simp only [upd]; split <;> rfl]
          first | refine z_incN5 d_m_isNumber_89 92 rfl rfl ?_ | refine z_inc5 d_m_isNumber_89 92 rfl rfl rfl ?_
          refine z_goto (tgt := 34) d_m_isNumber_92 rfl ?_
          exact ih (j + 1) 0 false _ z (by omega) (by omega) (fun h => by cases h) (fun _ => hF)
      refine z_iload d_m_isNumber_34 36 rfl rfl ?_
      refine z_iload_n d_m_isNumber_36 37 rfl rfl rfl ?_
      refine z_iload_n d_m_isNumber_37 38 rfl rfl rfl ?_
      first | refine z_iaddN d_m_isNumber_38 39 rfl ?_ | refine z_iadd d_m_isNumber_38 39 rfl ?_
      refine z_icmp_geN (tgt := 95) d_m_isNumber_39 42 rfl rfl (by omega) (by omega) (fun h39 => ?_) (fun h39 => ?_)
      · omega
      · refine z_iload d_m_isNumber_42 44 rfl rfl ?_
        refine z_if_eqB (tgt := 64) d_m_isNumber_44 47 rfl rfl (fun h44 => ?_) (fun h44 => ?_)
        · refine z_iconst (v := nI 0) d_m_isNumber_64 65 rfl rfl ?_
          exact join false (by rw [h44]; rfl)
        · refine z_aload_n d_m_isNumber_47 48 rfl rfl rfl ?_
          refine z_iload_n d_m_isNumber_48 49 rfl rfl rfl ?_
          refine z_iload d_m_isNumber_49 51 rfl rfl ?_
          refine zm_cV1 d_m_isNumber_51 54 rfl mv_m_at kl_m_40 (by decide) (fun Q' h => c_m_atG s k j hr (by omega) hs hl h) rfl rfl (Nat.le_of_ble_eq_true rfl) ?_
          refine zm_cS1 d_m_isNumber_54 57 rfl ms_m_isDigit kl_m_70 (by decide) (fun Q' h => c_m_isDigit _ (by omega) h) rfl rfl (Nat.le_of_ble_eq_true rfl) ?_
          refine z_if_eqB (tgt := 64) d_m_isNumber_57 60 rfl rfl (fun h57 => ?_) (fun h57 => ?_)
          · refine z_iconst (v := nI 0) d_m_isNumber_64 65 rfl rfl ?_
            exact join false (by rw [h44, h57]; rfl)
          · refine z_iconst (v := nI 1) d_m_isNumber_60 61 rfl rfl ?_
            refine z_goto (tgt := 65) d_m_isNumber_61 rfl ?_
            exact join true (by rw [h44, h57]; rfl)
  have go : n ≤ 6 → ¬ (3 < n ∧ gB bs k 2 = 48) → Z l D M_m_isNumber 0 0 Q (zmod D o hp va vf) 0 0 23 [some (.ref o), some (.int (nI s)), some (.int (nI (k + 2))), some (.int (nI (n - 2))), none, none] [] := by
    intro h6 h48
    refine z_aload_n d_m_isNumber_23 24 rfl rfl rfl ?_
    refine z_iconst (v := nI 0) d_m_isNumber_24 25 rfl rfl ?_
    refine zm_putF 16 d_m_isNumber_25 28 rfl (p_m_83 _) (by decide) (by decide) ?_
    refine z_iconst (v := nI 1) d_m_isNumber_28 29 rfl rfl ?_
    refine z_ist4 d_m_isNumber_29 31 rfl rfl ?_
    refine z_iload_n d_m_isNumber_31 32 rfl rfl rfl ?_
    refine z_ist5 d_m_isNumber_32 34 rfl rfl ?_
    exact loop h6 h48 (n - 2) 2 0 true (nI 0) none (by omega) (by omega) (fun _ => ⟨rfl, Nat.pow_pos (by decide), rfl, rfl⟩) (fun h => by cases h)
  refine z_iload_n d_m_isNumber_0 1 rfl rfl rfl ?_
  refine z_iconst (v := nI 4) d_m_isNumber_1 2 rfl rfl ?_
  refine z_icmp_gtN (tgt := 21) d_m_isNumber_2 5 rfl rfl (by omega) (by omega) (fun h2 => ?_) (fun h2 => ?_)
  · refine z_iconst (v := nI 0) d_m_isNumber_21 22 rfl rfl ?_
    exact z_zretB (b := false) d_m_isNumber_22 rfl (Nat.le_refl 0) (Nat.le_refl 0) (bad (by simp [cardD]; omega))
  · refine z_iload_n d_m_isNumber_5 6 rfl rfl rfl ?_
    refine z_iconst (v := nI 1) d_m_isNumber_6 7 rfl rfl ?_
    refine z_icmp_leN (tgt := 23) d_m_isNumber_7 10 rfl rfl (by omega) (by omega) (fun h7 => ?_) (fun h7 => ?_)
    · exact go (by omega) (by omega)
    · refine z_aload_n d_m_isNumber_10 11 rfl rfl rfl ?_
      refine z_iload_n d_m_isNumber_11 12 rfl rfl rfl ?_
      refine z_iload_n d_m_isNumber_12 13 rfl rfl rfl ?_
      refine zm_cV1 d_m_isNumber_13 16 rfl mv_m_at kl_m_40 (by decide) (fun Q' h => c_m_atG s k 2 hr (by omega) hs hl h) rfl rfl (Nat.le_of_ble_eq_true rfl) ?_
      refine z_bipush (v := nI 48) d_m_isNumber_16 18 rfl rfl ?_
      refine z_icmp_neN (tgt := 23) d_m_isNumber_18 21 rfl rfl (by omega) (by omega) (fun h18 => ?_) (fun h18 => ?_)
      · exact go (by omega) (by omega)
      · refine z_iconst (v := nI 0) d_m_isNumber_21 22 rfl rfl ?_
        exact z_zretB (b := false) d_m_isNumber_22 rfl (Nat.le_refl 0) (Nat.le_refl 0) (bad (by simp [cardD]; omega))
end M3
end
section
/-! The reference: cards and lines. Own work. -/
def cdP (c : CV) (f : Nat → Int32) : Prop := f 14 = oI c.2.2.2.1 ∧ f 15 = oI c.2.2.2.2.1 ∧ ((c.1 = 70 ∨ c.1 = 84) → f 12 = nI c.2.1) ∧ (c.1 = 84 → f 13 = zb c.2.2.1) ∧ (c.1 = 68 → f 16 = nI c.2.2.2.2.2)
theorem cardD_1 {g : Nat → Nat} {n : Nat} {c : CV} (h : cardD g n = some c) : c.1 = 68 ∧ c.2.2.2.1 = none ∧ c.2.2.2.2.1 = none := by
  simp only [cardD] at h
  split at h
  · cases h; exact ⟨rfl, rfl, rfl⟩
  · cases h
theorem cardP_1 {g : Nat → Nat} {n : Nat} {c : CV} (h : cardP g n = some c) : c.1 = 80 := by
  simp only [cardP] at h
  split at h
  · obtain ⟨v, -, rfl⟩ := Option.map_eq_some_iff.mp h; rfl
  · split at h
    · obtain ⟨a, -, h⟩ := Option.bind_eq_some_iff.mp h
      obtain ⟨b, -, h⟩ := Option.bind_eq_some_iff.mp h
      split at h
      · cases h
      · cases h; rfl
    · cases h
theorem cardT_1 {g : Nat → Nat} {n : Nat} {c : CV} (h : cardT g n = some c) : c.1 = 84 := by
  simp only [cardT] at h
  split at h
  · split at h
    · split at h
      · cases h; rfl
      · cases h
    · obtain ⟨v, -, rfl⟩ := Option.map_eq_some_iff.mp h; rfl
  · cases h
theorem upd_lo {f : Nat → Int32} {k j : Nat} {x : Int32} (hk : 12 ≤ k) (hj : j < 12) : upd f k x j = f j := if_neg (by omega)
section M4
variable {l : Launch} {D : zD} {hp : zH} {o : Nat} {va : Nat → Nat → Int32} {vf : Nat → Int32} {Q : Option Value → zH → Prop}
theorem c_m_isCard (s k n : Nat) {bs : List Nat} (hr : zrow va s bs) (hn : 3 ≤ n) (hk : k + n ≤ bs.length) (hs : s < 66) (hl : bs.length ≤ 240)
    (hQ : ∀ vf' : Nat → Int32, (∀ j, j < 12 → vf' j = vf j) → (∀ c, cardB (gB bs k) n = some c → cdP c vf') → Q (some (.int (zb (cardB (gB bs k) n).isSome))) (zmod D o hp va vf')) :
    Runs l D M_m_isCard [.ref o, .int (nI s), .int (nI k), .int (nI n)] (zmod D o hp va vf) 0 0 Q := by
  refine Runs.of rfl rfl (Nat.le_of_ble_eq_true rfl) ?_
  have hlt := gB_lt hr k
  have g0 := hlt 0
  have g2 := hlt 2
  have g3 := hlt 3
  refine z_aload_n d_m_isCard_0 1 rfl rfl rfl ?_
  refine z_iload_n d_m_isCard_1 2 rfl rfl rfl ?_
  refine z_iload_n d_m_isCard_2 3 rfl rfl rfl ?_
  refine zm_cV1 d_m_isCard_3 6 rfl mv_m_at kl_m_40 (by decide) (fun Q' h => c_m_at0 s k hr (by omega) hs hl h) rfl rfl (Nat.le_of_ble_eq_true rfl) ?_
  refine z_ist4 d_m_isCard_6 8 rfl rfl ?_
  refine z_aload_n d_m_isCard_8 9 rfl rfl rfl ?_
  refine z_iconst (v := oI none) d_m_isCard_9 10 rfl (by decide) ?_
  refine zm_putF 14 d_m_isCard_10 13 rfl (p_m_58 _) (by decide) (by decide) ?_
  refine z_aload_n d_m_isCard_13 14 rfl rfl rfl ?_
  refine z_iconst (v := oI none) d_m_isCard_14 15 rfl (by decide) ?_
  refine zm_putF 15 d_m_isCard_15 18 rfl (p_m_61 _) (by decide) (by decide) ?_
  refine z_iload d_m_isCard_18 20 rfl rfl ?_
  refine z_bipush (v := nI 68) d_m_isCard_20 22 rfl rfl ?_
  refine z_icmp_neN (tgt := 37) d_m_isCard_22 25 rfl rfl (by omega) (by omega) (fun h22 => ?_) (fun h22 => ?_)
  · refine z_iload d_m_isCard_37 39 rfl rfl ?_
    refine z_bipush (v := nI 77) d_m_isCard_39 41 rfl rfl ?_
    refine z_icmp_eqN (tgt := 58) d_m_isCard_41 44 rfl rfl (by omega) (by omega) (fun h41 => ?_) (fun h41 => ?_)
    · refine z_iload_n d_m_isCard_58 59 rfl rfl rfl ?_
      refine z_bipush (v := nI 8) d_m_isCard_59 61 rfl rfl ?_
      refine z_icmp_neN (tgt := 76) d_m_isCard_61 64 rfl rfl (by omega) (by omega) (fun h61 => ?_) (fun h61 => ?_)
      · refine z_aload_n d_m_isCard_76 77 rfl rfl rfl ?_
        refine zm_getF 14 d_m_isCard_77 80 rfl f_m_58 rfl ?_; try simp only [pk_us, pk_un, ne_eq, Nat.reduceEqDiff, not_false_eq_true]
        refine z_if_ltO (tgt := 87) d_m_isCard_80 83 rfl rfl (fun v h => by first | (cases h; done) | (have := nm6_lt h; omega)) (fun h80 => ?_) (fun w80 h80 => ?_)
        · refine z_iconst (v := nI 0) d_m_isCard_87 88 rfl rfl ?_
          exact z_zretB (b := false) d_m_isCard_88 rfl (Nat.le_refl 0) (Nat.le_refl 0) (by first | (exfalso; omega) | (have e : (cardB (gB bs k) n).isSome = false := (by simp [cardB, card1, cardF, *]); rw [← e]; exact hQ _ (fun j hj => by simp only [upd_lo, hj, Nat.reduceLeDiff]) (fun c hc => by first | (exfalso; rw [hc] at e; simp at e; done) | (simp [cardB, card1, cardF, *] at hc; subst hc; simp [cdP, upd, *]))) | (exfalso; simp_all; done))
        · refine z_iconst (v := nI 1) d_m_isCard_83 84 rfl rfl ?_
          refine z_goto (tgt := 88) d_m_isCard_84 rfl ?_
          exact z_zretB (b := true) d_m_isCard_88 rfl (Nat.le_refl 0) (Nat.le_refl 0) (by first | (exfalso; omega) | (have e : (cardB (gB bs k) n).isSome = true := (by simp [cardB, card1, cardF, *]); rw [← e]; exact hQ _ (fun j hj => by simp only [upd_lo, hj, Nat.reduceLeDiff]) (fun c hc => by first | (exfalso; rw [hc] at e; simp at e; done) | (simp [cardB, card1, cardF, *] at hc; subst hc; simp [cdP, upd, *]))) | (exfalso; simp_all; done))
      · refine z_aload_n d_m_isCard_64 65 rfl rfl rfl ?_
        refine z_aload_n d_m_isCard_65 66 rfl rfl rfl ?_
        refine z_iload_n d_m_isCard_66 67 rfl rfl rfl ?_
        refine z_iload_n d_m_isCard_67 68 rfl rfl rfl ?_
        refine z_iconst (v := nI 2) d_m_isCard_68 69 rfl rfl ?_
        first | refine z_iaddN d_m_isCard_69 70 rfl ?_ | refine z_iadd d_m_isCard_69 70 rfl ?_
        refine zm_cV1 d_m_isCard_70 73 rfl mv_m_nameAt kl_m_67 (by decide) (fun Q' h => c_m_nameAtG s k 2 hr (by omega) hs hl h) rfl rfl (Nat.le_of_ble_eq_true rfl) ?_
        refine zm_putF 14 d_m_isCard_73 76 rfl (p_m_58 _) (by decide) (by decide) ?_
        refine z_aload_n d_m_isCard_76 77 rfl rfl rfl ?_
        refine zm_getF 14 d_m_isCard_77 80 rfl f_m_58 rfl ?_; try simp only [pk_us, pk_un, ne_eq, Nat.reduceEqDiff, not_false_eq_true]
        refine z_if_ltO (tgt := 87) d_m_isCard_80 83 rfl rfl (fun v h => by first | (cases h; done) | (have := nm6_lt h; omega)) (fun h80 => ?_) (fun w80 h80 => ?_)
        · refine z_iconst (v := nI 0) d_m_isCard_87 88 rfl rfl ?_
          exact z_zretB (b := false) d_m_isCard_88 rfl (Nat.le_refl 0) (Nat.le_refl 0) (by first | (exfalso; omega) | (have e : (cardB (gB bs k) n).isSome = false := (by simp [cardB, card1, cardF, *]); rw [← e]; exact hQ _ (fun j hj => by simp only [upd_lo, hj, Nat.reduceLeDiff]) (fun c hc => by first | (exfalso; rw [hc] at e; simp at e; done) | (simp [cardB, card1, cardF, *] at hc; subst hc; simp [cdP, upd, *]))) | (exfalso; simp_all; done))
        · refine z_iconst (v := nI 1) d_m_isCard_83 84 rfl rfl ?_
          refine z_goto (tgt := 88) d_m_isCard_84 rfl ?_
          exact z_zretB (b := true) d_m_isCard_88 rfl (Nat.le_refl 0) (Nat.le_refl 0) (by first | (exfalso; omega) | (have e : (cardB (gB bs k) n).isSome = true := (by simp [cardB, card1, cardF, *]); rw [← e]; exact hQ _ (fun j hj => by simp only [upd_lo, hj, Nat.reduceLeDiff]) (fun c hc => by first | (exfalso; rw [hc] at e; simp at e; done) | (simp [cardB, card1, cardF, *] at hc; subst hc; simp [cdP, upd, *]))) | (exfalso; simp_all; done))
    · refine z_iload d_m_isCard_44 46 rfl rfl ?_
      refine z_bipush (v := nI 82) d_m_isCard_46 48 rfl rfl ?_
      refine z_icmp_eqN (tgt := 58) d_m_isCard_48 51 rfl rfl (by omega) (by omega) (fun h48 => ?_) (fun h48 => ?_)
      · refine z_iload_n d_m_isCard_58 59 rfl rfl rfl ?_
        refine z_bipush (v := nI 8) d_m_isCard_59 61 rfl rfl ?_
        refine z_icmp_neN (tgt := 76) d_m_isCard_61 64 rfl rfl (by omega) (by omega) (fun h61 => ?_) (fun h61 => ?_)
        · refine z_aload_n d_m_isCard_76 77 rfl rfl rfl ?_
          refine zm_getF 14 d_m_isCard_77 80 rfl f_m_58 rfl ?_; try simp only [pk_us, pk_un, ne_eq, Nat.reduceEqDiff, not_false_eq_true]
          refine z_if_ltO (tgt := 87) d_m_isCard_80 83 rfl rfl (fun v h => by first | (cases h; done) | (have := nm6_lt h; omega)) (fun h80 => ?_) (fun w80 h80 => ?_)
          · refine z_iconst (v := nI 0) d_m_isCard_87 88 rfl rfl ?_
            exact z_zretB (b := false) d_m_isCard_88 rfl (Nat.le_refl 0) (Nat.le_refl 0) (by first | (exfalso; omega) | (have e : (cardB (gB bs k) n).isSome = false := (by simp [cardB, card1, cardF, *]); rw [← e]; exact hQ _ (fun j hj => by simp only [upd_lo, hj, Nat.reduceLeDiff]) (fun c hc => by first | (exfalso; rw [hc] at e; simp at e; done) | (simp [cardB, card1, cardF, *] at hc; subst hc; simp [cdP, upd, *]))) | (exfalso; simp_all; done))
          · refine z_iconst (v := nI 1) d_m_isCard_83 84 rfl rfl ?_
            refine z_goto (tgt := 88) d_m_isCard_84 rfl ?_
            exact z_zretB (b := true) d_m_isCard_88 rfl (Nat.le_refl 0) (Nat.le_refl 0) (by first | (exfalso; omega) | (have e : (cardB (gB bs k) n).isSome = true := (by simp [cardB, card1, cardF, *]); rw [← e]; exact hQ _ (fun j hj => by simp only [upd_lo, hj, Nat.reduceLeDiff]) (fun c hc => by first | (exfalso; rw [hc] at e; simp at e; done) | (simp [cardB, card1, cardF, *] at hc; subst hc; simp [cdP, upd, *]))) | (exfalso; simp_all; done))
        · refine z_aload_n d_m_isCard_64 65 rfl rfl rfl ?_
          refine z_aload_n d_m_isCard_65 66 rfl rfl rfl ?_
          refine z_iload_n d_m_isCard_66 67 rfl rfl rfl ?_
          refine z_iload_n d_m_isCard_67 68 rfl rfl rfl ?_
          refine z_iconst (v := nI 2) d_m_isCard_68 69 rfl rfl ?_
          first | refine z_iaddN d_m_isCard_69 70 rfl ?_ | refine z_iadd d_m_isCard_69 70 rfl ?_
          refine zm_cV1 d_m_isCard_70 73 rfl mv_m_nameAt kl_m_67 (by decide) (fun Q' h => c_m_nameAtG s k 2 hr (by omega) hs hl h) rfl rfl (Nat.le_of_ble_eq_true rfl) ?_
          refine zm_putF 14 d_m_isCard_73 76 rfl (p_m_58 _) (by decide) (by decide) ?_
          refine z_aload_n d_m_isCard_76 77 rfl rfl rfl ?_
          refine zm_getF 14 d_m_isCard_77 80 rfl f_m_58 rfl ?_; try simp only [pk_us, pk_un, ne_eq, Nat.reduceEqDiff, not_false_eq_true]
          refine z_if_ltO (tgt := 87) d_m_isCard_80 83 rfl rfl (fun v h => by first | (cases h; done) | (have := nm6_lt h; omega)) (fun h80 => ?_) (fun w80 h80 => ?_)
          · refine z_iconst (v := nI 0) d_m_isCard_87 88 rfl rfl ?_
            exact z_zretB (b := false) d_m_isCard_88 rfl (Nat.le_refl 0) (Nat.le_refl 0) (by first | (exfalso; omega) | (have e : (cardB (gB bs k) n).isSome = false := (by simp [cardB, card1, cardF, *]); rw [← e]; exact hQ _ (fun j hj => by simp only [upd_lo, hj, Nat.reduceLeDiff]) (fun c hc => by first | (exfalso; rw [hc] at e; simp at e; done) | (simp [cardB, card1, cardF, *] at hc; subst hc; simp [cdP, upd, *]))) | (exfalso; simp_all; done))
          · refine z_iconst (v := nI 1) d_m_isCard_83 84 rfl rfl ?_
            refine z_goto (tgt := 88) d_m_isCard_84 rfl ?_
            exact z_zretB (b := true) d_m_isCard_88 rfl (Nat.le_refl 0) (Nat.le_refl 0) (by first | (exfalso; omega) | (have e : (cardB (gB bs k) n).isSome = true := (by simp [cardB, card1, cardF, *]); rw [← e]; exact hQ _ (fun j hj => by simp only [upd_lo, hj, Nat.reduceLeDiff]) (fun c hc => by first | (exfalso; rw [hc] at e; simp at e; done) | (simp [cardB, card1, cardF, *] at hc; subst hc; simp [cdP, upd, *]))) | (exfalso; simp_all; done))
      · refine z_iload d_m_isCard_51 53 rfl rfl ?_
        refine z_bipush (v := nI 90) d_m_isCard_53 55 rfl rfl ?_
        refine z_icmp_neN (tgt := 89) d_m_isCard_55 58 rfl rfl (by omega) (by omega) (fun h55 => ?_) (fun h55 => ?_)
        · refine z_iload d_m_isCard_89 91 rfl rfl ?_
          refine z_bipush (v := nI 70) d_m_isCard_91 93 rfl rfl ?_
          refine z_icmp_neN (tgt := 171) d_m_isCard_93 96 rfl rfl (by omega) (by omega) (fun h93 => ?_) (fun h93 => ?_)
          · refine z_iload d_m_isCard_171 173 rfl rfl ?_
            refine z_bipush (v := nI 80) d_m_isCard_173 175 rfl rfl ?_
            refine z_icmp_neN (tgt := 186) d_m_isCard_175 178 rfl rfl (by omega) (by omega) (fun h175 => ?_) (fun h175 => ?_)
            · refine z_iload d_m_isCard_186 188 rfl rfl ?_
              refine z_bipush (v := nI 84) d_m_isCard_188 190 rfl rfl ?_
              refine z_icmp_neN (tgt := 207) d_m_isCard_190 193 rfl rfl (by omega) (by omega) (fun h190 => ?_) (fun h190 => ?_)
              · refine z_iconst (v := nI 0) d_m_isCard_207 208 rfl rfl ?_
                exact z_zretB (b := false) d_m_isCard_208 rfl (Nat.le_refl 0) (Nat.le_refl 0) (by first | (exfalso; omega) | (have e : cardB (gB bs k) n = cardT (gB bs k) n := (by simp [cardB, *]); rw [← h200, ← e]; exact hQ f (fun j hj => by rw [i1 j (by omega) (by omega) (by omega), upd_lo (by decide) hj, upd_lo (by decide) hj]) (fun c hc => by rw [e] at hc; have e1 := cardT_1 hc; simp [cdP, e1, i2 c hc])) | (have e : cardB (gB bs k) n = none := (by simp [cardB, *]); have := hQ (upd (upd vf 14 (oI none)) 15 (oI none)) (fun j hj => by rw [upd_lo (by decide) hj, upd_lo (by decide) hj]) (fun c hc => by rw [e] at hc; cases hc); rw [e] at this; exact this))
              · refine z_aload_n d_m_isCard_193 194 rfl rfl rfl ?_
                refine z_iload_n d_m_isCard_194 195 rfl rfl rfl ?_
                refine z_iload_n d_m_isCard_195 196 rfl rfl rfl ?_
                refine z_iload_n d_m_isCard_196 197 rfl rfl rfl ?_
                refine zm_cV (fun v a f => v = .int (zb (cardT (gB bs k) n).isSome) ∧ a = va ∧ (∀ j, j ≠ 12 → j ≠ 13 → j ≠ 14 → f j = upd (upd vf 14 (oI none)) 15 (oI none) j) ∧ ∀ c, cardT (gB bs k) n = some c → f 14 = oI c.2.2.2.1 ∧ f 15 = oI c.2.2.2.2.1 ∧ f 12 = nI c.2.1 ∧ f 13 = zb c.2.2.1) d_m_isCard_197 200 rfl mv_m_isTag kl_m_80 (by decide) (fun Q' h => c_m_isTag s k n hr hk hs hl (by simp [upd]) (by simp [upd]) (fun f h1 h2 => h _ _ _ ⟨rfl, rfl, h1, h2⟩)) rfl rfl (Nat.le_of_ble_eq_true rfl) ?_; rintro _ _ f ⟨rfl, rfl, i1, i2⟩
                refine z_if_eqB (tgt := 207) d_m_isCard_200 203 rfl rfl (fun h200 => ?_) (fun h200 => ?_)
                · refine z_iconst (v := nI 0) d_m_isCard_207 208 rfl rfl ?_
                  exact z_zretB (b := false) d_m_isCard_208 rfl (Nat.le_refl 0) (Nat.le_refl 0) (by first | (exfalso; omega) | (have e : cardB (gB bs k) n = cardT (gB bs k) n := (by simp [cardB, *]); rw [← h200, ← e]; exact hQ f (fun j hj => by rw [i1 j (by omega) (by omega) (by omega), upd_lo (by decide) hj, upd_lo (by decide) hj]) (fun c hc => by rw [e] at hc; have e1 := cardT_1 hc; simp [cdP, e1, i2 c hc])) | (have e : cardB (gB bs k) n = none := (by simp [cardB, *]); have := hQ (upd (upd vf 14 (oI none)) 15 (oI none)) (fun j hj => by rw [upd_lo (by decide) hj, upd_lo (by decide) hj]) (fun c hc => by rw [e] at hc; cases hc); rw [e] at this; exact this))
                · refine z_iconst (v := nI 1) d_m_isCard_203 204 rfl rfl ?_
                  refine z_goto (tgt := 208) d_m_isCard_204 rfl ?_
                  exact z_zretB (b := true) d_m_isCard_208 rfl (Nat.le_refl 0) (Nat.le_refl 0) (by first | (exfalso; omega) | (have e : cardB (gB bs k) n = cardT (gB bs k) n := (by simp [cardB, *]); rw [← h200, ← e]; exact hQ f (fun j hj => by rw [i1 j (by omega) (by omega) (by omega), upd_lo (by decide) hj, upd_lo (by decide) hj]) (fun c hc => by rw [e] at hc; have e1 := cardT_1 hc; simp [cdP, e1, i2 c hc])) | (have e : cardB (gB bs k) n = none := (by simp [cardB, *]); have := hQ (upd (upd vf 14 (oI none)) 15 (oI none)) (fun j hj => by rw [upd_lo (by decide) hj, upd_lo (by decide) hj]) (fun c hc => by rw [e] at hc; cases hc); rw [e] at this; exact this))
            · refine z_aload_n d_m_isCard_178 179 rfl rfl rfl ?_
              refine z_iload_n d_m_isCard_179 180 rfl rfl rfl ?_
              refine z_iload_n d_m_isCard_180 181 rfl rfl rfl ?_
              refine z_iload_n d_m_isCard_181 182 rfl rfl rfl ?_
              refine zm_cV (fun v a f => v = .int (zb (cardP (gB bs k) n).isSome) ∧ a = va ∧ (∀ j, j ≠ 14 → j ≠ 15 → f j = upd (upd vf 14 (oI none)) 15 (oI none) j) ∧ ∀ c, cardP (gB bs k) n = some c → f 14 = oI c.2.2.2.1 ∧ f 15 = oI c.2.2.2.2.1) d_m_isCard_182 185 rfl mv_m_isParent kl_m_77 (by decide) (fun Q' h => c_m_isParent s k n hr hk hs hl (by simp [upd]) (fun f h1 h2 => h _ _ _ ⟨rfl, rfl, h1, h2⟩)) rfl rfl (Nat.le_of_ble_eq_true rfl) ?_; rintro _ _ f ⟨rfl, rfl, i1, i2⟩
              exact z_zretB d_m_isCard_185 rfl (Nat.le_refl 0) (Nat.le_refl 0) (by have e : cardB (gB bs k) n = cardP (gB bs k) n := (by simp [cardB, *]); rw [← e]; exact hQ f (fun j hj => by rw [i1 j (by omega) (by omega), upd_lo (by decide) hj, upd_lo (by decide) hj]) (fun c hc => by rw [e] at hc; have e1 := cardP_1 hc; simp [cdP, e1, i2 c hc]))
          · refine z_iload_n d_m_isCard_96 97 rfl rfl rfl ?_
            refine z_bipush (v := nI 10) d_m_isCard_97 99 rfl rfl ?_
            refine z_icmp_neN (tgt := 129) d_m_isCard_99 102 rfl rfl (by omega) (by omega) (fun h99 => ?_) (fun h99 => ?_)
            · refine z_iconst (v := nI 0) d_m_isCard_129 130 rfl rfl ?_
              exact z_zretB (b := false) d_m_isCard_130 rfl (Nat.le_refl 0) (Nat.le_refl 0) (by first | (exfalso; omega) | (have e : (cardB (gB bs k) n).isSome = false := (by simp [cardB, card1, cardF, *]); rw [← e]; exact hQ _ (fun j hj => by simp only [upd_lo, hj, Nat.reduceLeDiff]) (fun c hc => by first | (exfalso; rw [hc] at e; simp at e; done) | (simp [cardB, card1, cardF, *] at hc; subst hc; simp [cdP, upd, *]))) | (exfalso; simp_all; done))
            · refine z_aload_n d_m_isCard_102 103 rfl rfl rfl ?_
              refine z_iload_n d_m_isCard_103 104 rfl rfl rfl ?_
              refine z_iload_n d_m_isCard_104 105 rfl rfl rfl ?_
              refine z_iconst (v := nI 3) d_m_isCard_105 106 rfl rfl ?_
              first | refine z_iaddN d_m_isCard_106 107 rfl ?_ | refine z_iadd d_m_isCard_106 107 rfl ?_
              refine zm_cV1 d_m_isCard_107 110 rfl mv_m_at kl_m_40 (by decide) (fun Q' h => c_m_atG s k 3 hr (by omega) hs hl h) rfl rfl (Nat.le_of_ble_eq_true rfl) ?_
              refine z_bipush (v := nI 32) d_m_isCard_110 112 rfl rfl ?_
              refine z_icmp_neN (tgt := 129) d_m_isCard_112 115 rfl rfl (by omega) (by omega) (fun h112 => ?_) (fun h112 => ?_)
              · refine z_iconst (v := nI 0) d_m_isCard_129 130 rfl rfl ?_
                exact z_zretB (b := false) d_m_isCard_130 rfl (Nat.le_refl 0) (Nat.le_refl 0) (by first | (exfalso; omega) | (have e : (cardB (gB bs k) n).isSome = false := (by simp [cardB, card1, cardF, *]); rw [← e]; exact hQ _ (fun j hj => by simp only [upd_lo, hj, Nat.reduceLeDiff]) (fun c hc => by first | (exfalso; rw [hc] at e; simp at e; done) | (simp [cardB, card1, cardF, *] at hc; subst hc; simp [cdP, upd, *]))) | (exfalso; simp_all; done))
              · refine z_aload_n d_m_isCard_115 116 rfl rfl rfl ?_
                refine z_iload_n d_m_isCard_116 117 rfl rfl rfl ?_
                refine z_iload_n d_m_isCard_117 118 rfl rfl rfl ?_
                refine z_iconst (v := nI 2) d_m_isCard_118 119 rfl rfl ?_
                first | refine z_iaddN d_m_isCard_119 120 rfl ?_ | refine z_iadd d_m_isCard_119 120 rfl ?_
                refine zm_cV1 d_m_isCard_120 123 rfl mv_m_at kl_m_40 (by decide) (fun Q' h => c_m_atG s k 2 hr (by omega) hs hl h) rfl rfl (Nat.le_of_ble_eq_true rfl) ?_
                refine zm_cS1 d_m_isCard_123 126 rfl ms_m_isDigit kl_m_70 (by decide) (fun Q' h => c_m_isDigit _ (by omega) h) rfl rfl (Nat.le_of_ble_eq_true rfl) ?_
                refine z_if_neB (tgt := 131) d_m_isCard_126 129 rfl rfl (fun h126 => ?_) (fun h126 => ?_)
                · refine z_aload_n d_m_isCard_131 132 rfl rfl rfl ?_
                  refine z_aload_n d_m_isCard_132 133 rfl rfl rfl ?_
                  refine z_iload_n d_m_isCard_133 134 rfl rfl rfl ?_
                  refine z_iload_n d_m_isCard_134 135 rfl rfl rfl ?_
                  refine z_iconst (v := nI 2) d_m_isCard_135 136 rfl rfl ?_
                  first | refine z_iaddN d_m_isCard_136 137 rfl ?_ | refine z_iadd d_m_isCard_136 137 rfl ?_
                  refine zm_cV1 d_m_isCard_137 140 rfl mv_m_at kl_m_40 (by decide) (fun Q' h => c_m_atG s k 2 hr (by omega) hs hl h) rfl rfl (Nat.le_of_ble_eq_true rfl) ?_
                  refine z_bipush (v := nI 48) d_m_isCard_140 142 rfl rfl ?_
                  refine z_isubN d_m_isCard_142 143 rfl (by simp [isDg] at h126; omega) ?_
                  refine zm_putF 12 d_m_isCard_143 146 rfl (p_m_74 _) (by decide) (by decide) ?_
                  refine z_aload_n d_m_isCard_146 147 rfl rfl rfl ?_
                  refine z_aload_n d_m_isCard_147 148 rfl rfl rfl ?_
                  refine z_iload_n d_m_isCard_148 149 rfl rfl rfl ?_
                  refine z_iload_n d_m_isCard_149 150 rfl rfl rfl ?_
                  refine z_iconst (v := nI 4) d_m_isCard_150 151 rfl rfl ?_
                  first | refine z_iaddN d_m_isCard_151 152 rfl ?_ | refine z_iadd d_m_isCard_151 152 rfl ?_
                  refine zm_cV1 d_m_isCard_152 155 rfl mv_m_nameAt kl_m_67 (by decide) (fun Q' h => c_m_nameAtG s k 4 hr (by omega) hs hl h) rfl rfl (Nat.le_of_ble_eq_true rfl) ?_
                  refine zm_putF 14 d_m_isCard_155 158 rfl (p_m_58 _) (by decide) (by decide) ?_
                  refine z_aload_n d_m_isCard_158 159 rfl rfl rfl ?_
                  refine zm_getF 14 d_m_isCard_159 162 rfl f_m_58 rfl ?_; try simp only [pk_us, pk_un, ne_eq, Nat.reduceEqDiff, not_false_eq_true]
                  refine z_if_ltO (tgt := 169) d_m_isCard_162 165 rfl rfl (fun v h => by first | (cases h; done) | (have := nm6_lt h; omega)) (fun h162 => ?_) (fun w162 h162 => ?_)
                  · refine z_iconst (v := nI 0) d_m_isCard_169 170 rfl rfl ?_
                    exact z_zretB (b := false) d_m_isCard_170 rfl (Nat.le_refl 0) (Nat.le_refl 0) (by first | (exfalso; omega) | (have e : (cardB (gB bs k) n).isSome = false := (by simp [cardB, card1, cardF, *]); rw [← e]; exact hQ _ (fun j hj => by simp only [upd_lo, hj, Nat.reduceLeDiff]) (fun c hc => by first | (exfalso; rw [hc] at e; simp at e; done) | (simp [cardB, card1, cardF, *] at hc; subst hc; simp [cdP, upd, *]))) | (exfalso; simp_all; done))
                  · refine z_iconst (v := nI 1) d_m_isCard_165 166 rfl rfl ?_
                    refine z_goto (tgt := 170) d_m_isCard_166 rfl ?_
                    exact z_zretB (b := true) d_m_isCard_170 rfl (Nat.le_refl 0) (Nat.le_refl 0) (by first | (exfalso; omega) | (have e : (cardB (gB bs k) n).isSome = true := (by simp [cardB, card1, cardF, *]); rw [← e]; exact hQ _ (fun j hj => by simp only [upd_lo, hj, Nat.reduceLeDiff]) (fun c hc => by first | (exfalso; rw [hc] at e; simp at e; done) | (simp [cardB, card1, cardF, *] at hc; subst hc; simp [cdP, upd, *]))) | (exfalso; simp_all; done))
                · refine z_iconst (v := nI 0) d_m_isCard_129 130 rfl rfl ?_
                  exact z_zretB (b := false) d_m_isCard_130 rfl (Nat.le_refl 0) (Nat.le_refl 0) (by first | (exfalso; omega) | (have e : (cardB (gB bs k) n).isSome = false := (by simp [cardB, card1, cardF, *]); rw [← e]; exact hQ _ (fun j hj => by simp only [upd_lo, hj, Nat.reduceLeDiff]) (fun c hc => by first | (exfalso; rw [hc] at e; simp at e; done) | (simp [cardB, card1, cardF, *] at hc; subst hc; simp [cdP, upd, *]))) | (exfalso; simp_all; done))
        · refine z_iload_n d_m_isCard_58 59 rfl rfl rfl ?_
          refine z_bipush (v := nI 8) d_m_isCard_59 61 rfl rfl ?_
          refine z_icmp_neN (tgt := 76) d_m_isCard_61 64 rfl rfl (by omega) (by omega) (fun h61 => ?_) (fun h61 => ?_)
          · refine z_aload_n d_m_isCard_76 77 rfl rfl rfl ?_
            refine zm_getF 14 d_m_isCard_77 80 rfl f_m_58 rfl ?_; try simp only [pk_us, pk_un, ne_eq, Nat.reduceEqDiff, not_false_eq_true]
            refine z_if_ltO (tgt := 87) d_m_isCard_80 83 rfl rfl (fun v h => by first | (cases h; done) | (have := nm6_lt h; omega)) (fun h80 => ?_) (fun w80 h80 => ?_)
            · refine z_iconst (v := nI 0) d_m_isCard_87 88 rfl rfl ?_
              exact z_zretB (b := false) d_m_isCard_88 rfl (Nat.le_refl 0) (Nat.le_refl 0) (by first | (exfalso; omega) | (have e : (cardB (gB bs k) n).isSome = false := (by simp [cardB, card1, cardF, *]); rw [← e]; exact hQ _ (fun j hj => by simp only [upd_lo, hj, Nat.reduceLeDiff]) (fun c hc => by first | (exfalso; rw [hc] at e; simp at e; done) | (simp [cardB, card1, cardF, *] at hc; subst hc; simp [cdP, upd, *]))) | (exfalso; simp_all; done))
            · refine z_iconst (v := nI 1) d_m_isCard_83 84 rfl rfl ?_
              refine z_goto (tgt := 88) d_m_isCard_84 rfl ?_
              exact z_zretB (b := true) d_m_isCard_88 rfl (Nat.le_refl 0) (Nat.le_refl 0) (by first | (exfalso; omega) | (have e : (cardB (gB bs k) n).isSome = true := (by simp [cardB, card1, cardF, *]); rw [← e]; exact hQ _ (fun j hj => by simp only [upd_lo, hj, Nat.reduceLeDiff]) (fun c hc => by first | (exfalso; rw [hc] at e; simp at e; done) | (simp [cardB, card1, cardF, *] at hc; subst hc; simp [cdP, upd, *]))) | (exfalso; simp_all; done))
          · refine z_aload_n d_m_isCard_64 65 rfl rfl rfl ?_
            refine z_aload_n d_m_isCard_65 66 rfl rfl rfl ?_
            refine z_iload_n d_m_isCard_66 67 rfl rfl rfl ?_
            refine z_iload_n d_m_isCard_67 68 rfl rfl rfl ?_
            refine z_iconst (v := nI 2) d_m_isCard_68 69 rfl rfl ?_
            first | refine z_iaddN d_m_isCard_69 70 rfl ?_ | refine z_iadd d_m_isCard_69 70 rfl ?_
            refine zm_cV1 d_m_isCard_70 73 rfl mv_m_nameAt kl_m_67 (by decide) (fun Q' h => c_m_nameAtG s k 2 hr (by omega) hs hl h) rfl rfl (Nat.le_of_ble_eq_true rfl) ?_
            refine zm_putF 14 d_m_isCard_73 76 rfl (p_m_58 _) (by decide) (by decide) ?_
            refine z_aload_n d_m_isCard_76 77 rfl rfl rfl ?_
            refine zm_getF 14 d_m_isCard_77 80 rfl f_m_58 rfl ?_; try simp only [pk_us, pk_un, ne_eq, Nat.reduceEqDiff, not_false_eq_true]
            refine z_if_ltO (tgt := 87) d_m_isCard_80 83 rfl rfl (fun v h => by first | (cases h; done) | (have := nm6_lt h; omega)) (fun h80 => ?_) (fun w80 h80 => ?_)
            · refine z_iconst (v := nI 0) d_m_isCard_87 88 rfl rfl ?_
              exact z_zretB (b := false) d_m_isCard_88 rfl (Nat.le_refl 0) (Nat.le_refl 0) (by first | (exfalso; omega) | (have e : (cardB (gB bs k) n).isSome = false := (by simp [cardB, card1, cardF, *]); rw [← e]; exact hQ _ (fun j hj => by simp only [upd_lo, hj, Nat.reduceLeDiff]) (fun c hc => by first | (exfalso; rw [hc] at e; simp at e; done) | (simp [cardB, card1, cardF, *] at hc; subst hc; simp [cdP, upd, *]))) | (exfalso; simp_all; done))
            · refine z_iconst (v := nI 1) d_m_isCard_83 84 rfl rfl ?_
              refine z_goto (tgt := 88) d_m_isCard_84 rfl ?_
              exact z_zretB (b := true) d_m_isCard_88 rfl (Nat.le_refl 0) (Nat.le_refl 0) (by first | (exfalso; omega) | (have e : (cardB (gB bs k) n).isSome = true := (by simp [cardB, card1, cardF, *]); rw [← e]; exact hQ _ (fun j hj => by simp only [upd_lo, hj, Nat.reduceLeDiff]) (fun c hc => by first | (exfalso; rw [hc] at e; simp at e; done) | (simp [cardB, card1, cardF, *] at hc; subst hc; simp [cdP, upd, *]))) | (exfalso; simp_all; done))
  · refine z_aload_n d_m_isCard_25 26 rfl rfl rfl ?_
    refine z_iload_n d_m_isCard_26 27 rfl rfl rfl ?_
    refine z_iload_n d_m_isCard_27 28 rfl rfl rfl ?_
    refine z_iconst (v := nI 2) d_m_isCard_28 29 rfl rfl ?_
    first | refine z_iaddN d_m_isCard_29 30 rfl ?_ | refine z_iadd d_m_isCard_29 30 rfl ?_
    refine z_iload_n d_m_isCard_30 31 rfl rfl rfl ?_
    refine z_iconst (v := nI 2) d_m_isCard_31 32 rfl rfl ?_
    refine z_isubN d_m_isCard_32 33 rfl (by omega) ?_
    refine zm_cV (fun v a f => v = .int (zb (cardD (gB bs k) n).isSome) ∧ a = va ∧ (∀ j, j ≠ 16 → f j = upd (upd vf 14 (oI none)) 15 (oI none) j) ∧ ∀ c, cardD (gB bs k) n = some c → f 16 = nI c.2.2.2.2.2) d_m_isCard_33 36 rfl mv_m_isNumber kl_m_64 (by decide) (fun Q' h => c_m_isNumber s k n hr hn hk hs hl (fun f h1 h2 => h _ _ _ ⟨rfl, rfl, h1, h2⟩)) rfl rfl (Nat.le_of_ble_eq_true rfl) ?_; rintro _ _ f ⟨rfl, rfl, i1, i2⟩
    exact z_zretB d_m_isCard_36 rfl (Nat.le_refl 0) (Nat.le_refl 0) (by have e : cardB (gB bs k) n = cardD (gB bs k) n := (by simp [cardB, *]); rw [← e]; exact hQ f (fun j hj => by rw [i1 j (by omega), upd_lo (by decide) hj, upd_lo (by decide) hj]) (fun c hc => by rw [e] at hc; obtain ⟨e1, e2, e3⟩ := cardD_1 hc; simp [cdP, e1, e2, e3, i1, i2 c hc, upd]))
end M4
end
section
/-! The reference: lines. Own work. -/
def eolF (bs : List Nat) : Nat → Nat → Nat
  | 0, j => j
  | c + 1, j => if bs.getD j 0 = 10 then j else eolF bs c (j + 1)
def eol (bs : List Nat) (k : Nat) : Nat := eolF bs (bs.length - k) k
theorem eolF_le (bs : List Nat) : ∀ c j, j ≤ eolF bs c j ∧ eolF bs c j ≤ j + c := by
  intro c
  induction c with
  | zero => intro j; simp [eolF]
  | succ c ih =>
    intro j
    simp only [eolF]
    split
    · omega
    · have := ih (j + 1); omega
theorem eol_le {bs : List Nat} {k : Nat} (h : k ≤ bs.length) : k ≤ eol bs k ∧ eol bs k ≤ bs.length := by
  have := eolF_le bs (bs.length - k) k
  unfold eol
  omega
theorem eolF_at (bs : List Nat) : ∀ c j, eolF bs c j < j + c → bs.getD (eolF bs c j) 0 = 10 := by
  intro c
  induction c with
  | zero => intro j h; simp [eolF] at h
  | succ c ih =>
    intro j h
    simp only [eolF] at h ⊢
    split
    next h1 => exact h1
    next h1 => rw [if_neg h1] at h; exact ih (j + 1) (by omega)
theorem eol_at {bs : List Nat} {k : Nat} (hk : k ≤ bs.length) (h : eol bs k < bs.length) : bs.getD (eol bs k) 0 = 10 := eolF_at bs _ _ (by unfold eol at h; omega)
theorem eolF_no (bs : List Nat) : ∀ c j i, j ≤ i → i < eolF bs c j → bs.getD i 0 ≠ 10 := by
  intro c
  induction c with
  | zero => intro j i h1 h2; simp [eolF] at h2; omega
  | succ c ih =>
    intro j i h1 h2
    simp only [eolF] at h2
    split at h2
    · omega
    next h3 =>
      by_cases h : i = j
      · rw [h]; exact h3
      · exact ih (j + 1) i (by omega) h2
/-- the line from k on: where the next begins, and its card -/
def rdl (bs : List Nat) (k : Nat) : Option (Nat × Option CV) := if eol bs k < bs.length then some (eol bs k + 1, cardG (gB bs k) (eol bs k - k)) else none
def rdP (r : Option (Nat × Option CV)) (f : Nat → Int32) : Prop := match r with
  | none => f 11 = nI 0
  | some (e, none) => f 10 = nI e ∧ f 11 = nI 0
  | some (e, some c) => f 10 = nI e ∧ f 11 = nI c.1 ∧ cdP c f
theorem cardB_1 {g : Nat → Nat} {n : Nat} {c : CV} (h : cardB g n = some c) : c.1 = g 0 := by
  simp only [cardB] at h
  split at h
  next h0 => rw [(cardD_1 h).1, h0]
  next =>
    split at h
    · simp only [card1] at h
      split at h
      · obtain ⟨v, -, rfl⟩ := Option.map_eq_some_iff.mp h; rfl
      · cases h
    · split at h
      next h0 =>
        simp only [cardF] at h
        split at h
        · obtain ⟨v, -, rfl⟩ := Option.map_eq_some_iff.mp h; exact h0.symm
        · cases h
      next =>
        split at h
        next h0 => rw [cardP_1 h, h0]
        next =>
          split at h
          next h0 => rw [cardT_1 h, h0]
          next => cases h
section M5
variable {l : Launch} {D : zD} {hp : zH} {o : Nat} {va : Nat → Nat → Int32} {vf : Nat → Int32} {Q : Option Value → zH → Prop}
theorem c_m_readLine (s k : Nat) {bs : List Nat} (hr : zrow va s bs) (hlen : va 1 s = nI bs.length) (hk : k ≤ bs.length) (hs : s < 66) (hl : bs.length ≤ 240)
    (hQ : ∀ f : Nat → Int32, f 9 = vf 9 → rdP (rdl bs k) f → Q (some (.int (zb (rdl bs k).isSome))) (zmod D o hp va f)) :
    Runs l D M_m_readLine [.ref o, .int (nI s), .int (nI k)] (zmod D o hp va vf) 0 0 Q := by
  refine Runs.of rfl rfl (Nat.le_of_ble_eq_true rfl) ?_
  have hlt := gB_lt hr k
  have g0 := hlt 0
  have g1 := hlt 1
  have hek := eol_le hk
  have fin : Z l D M_m_readLine 0 0 Q (zmod D o hp va vf) 0 0 29 [some (.ref o), some (.int (nI s)), some (.int (nI k)), some (.int (nI (eol bs k))), none] [] := by
    have done1 : eol bs k < bs.length → cardG (gB bs k) (eol bs k - k) = none → ∀ f : Nat → Int32, f 9 = vf 9 → f 10 = nI (eol bs k + 1) → f 11 = nI 0 → Q (some (.int (zb true))) (zmod D o hp va f) := by
      intro h1 h2 f f9 f10 f11
      have e : rdl bs k = some (eol bs k + 1, none) := by simp [rdl, h1, h2]
      have := hQ f f9 (by rw [e]; exact ⟨f10, f11⟩)
      rw [e] at this
      exact this
    have keep : ∀ j, j < 12 → j ≠ 10 → j ≠ 11 → upd (upd vf 11 (nI 0)) 10 (nI (eol bs k + 1)) j = vf j := by intro j _ h1 h2; simp [upd, h1, h2]
    refine z_aload_n d_m_readLine_29 30 rfl rfl rfl ?_
    refine z_iconst (v := nI 0) d_m_readLine_30 31 rfl rfl ?_
    refine zm_putF 11 d_m_readLine_31 34 rfl (p_m_47 _) (by decide) (by decide) ?_
    refine z_iload_n d_m_readLine_34 35 rfl rfl rfl ?_
    refine z_aload_n d_m_readLine_35 36 rfl rfl rfl ?_
    refine zm_getA 1 d_m_readLine_36 39 rfl f_m_13 rfl ?_
    refine z_iload_n d_m_readLine_39 40 rfl rfl rfl ?_
    refine zm_iald d_m_readLine_40 41 rfl (by decide) rfl (by simp only [zln]; omega) ?_
    rw [hlen]
    refine z_icmp_ltN (tgt := 46) d_m_readLine_41 44 rfl rfl (by omega) (by omega) (fun h41 => ?_) (fun h41 => ?_)
    · refine z_aload_n d_m_readLine_46 47 rfl rfl rfl ?_
      refine z_iload_n d_m_readLine_47 48 rfl rfl rfl ?_
      refine z_iconst (v := nI 1) d_m_readLine_48 49 rfl rfl ?_
      first | refine z_iaddN d_m_readLine_49 50 rfl ?_ | refine z_iadd d_m_readLine_49 50 rfl ?_
      refine zm_putF 10 d_m_readLine_50 53 rfl (p_m_51 _) (by decide) (by decide) ?_
      refine z_iload_n d_m_readLine_53 54 rfl rfl rfl ?_
      refine z_iload_n d_m_readLine_54 55 rfl rfl rfl ?_
      refine z_isubN d_m_readLine_55 56 rfl (by omega) ?_
      refine z_ist4 d_m_readLine_56 58 rfl rfl ?_
      refine z_iload d_m_readLine_58 60 rfl rfl ?_
      refine z_iconst (v := nI 3) d_m_readLine_60 61 rfl rfl ?_
      have p61 : ∀ a b : Int32, upd (upd vf 11 a) 10 b 10 = b ∧ upd (upd vf 11 a) 10 b 11 = a ∧ upd (upd vf 11 a) 10 b 9 = vf 9 := by intro a b; simp [upd]
      refine z_icmp_ltN (tgt := 98) d_m_readLine_61 64 rfl rfl (by omega) (by omega) (fun h61 => ?_) (fun h61 => ?_)
      · refine z_iconst (v := nI 1) d_m_readLine_98 99 rfl rfl ?_
        exact z_zretB (b := true) d_m_readLine_99 rfl (Nat.le_refl 0) (Nat.le_refl 0) (done1 h41 (by simp [cardG]; omega) _ (p61 _ _).2.2 (p61 _ _).1 (p61 _ _).2.1)
      · refine z_aload_n d_m_readLine_64 65 rfl rfl rfl ?_
        refine z_iload_n d_m_readLine_65 66 rfl rfl rfl ?_
        refine z_iload_n d_m_readLine_66 67 rfl rfl rfl ?_
        refine z_iconst (v := nI 1) d_m_readLine_67 68 rfl rfl ?_
        first | refine z_iaddN d_m_readLine_68 69 rfl ?_ | refine z_iadd d_m_readLine_68 69 rfl ?_
        refine zm_cV1 d_m_readLine_69 72 rfl mv_m_at kl_m_40 (by decide) (fun Q' h => c_m_atG s k 1 hr (by omega) hs hl h) rfl rfl (Nat.le_of_ble_eq_true rfl) ?_
        refine z_bipush (v := nI 32) d_m_readLine_72 74 rfl rfl ?_
        refine z_icmp_neN (tgt := 98) d_m_readLine_74 77 rfl rfl (by omega) (by omega) (fun h74 => ?_) (fun h74 => ?_)
        · refine z_iconst (v := nI 1) d_m_readLine_98 99 rfl rfl ?_
          exact z_zretB (b := true) d_m_readLine_99 rfl (Nat.le_refl 0) (Nat.le_refl 0) (done1 h41 (by simp [cardG]; omega) _ (p61 _ _).2.2 (p61 _ _).1 (p61 _ _).2.1)
        · have hcg : cardG (gB bs k) (eol bs k - k) = cardB (gB bs k) (eol bs k - k) := by simp [cardG, h74, h61]
          refine z_aload_n d_m_readLine_77 78 rfl rfl rfl ?_
          refine z_iload_n d_m_readLine_78 79 rfl rfl rfl ?_
          refine z_iload_n d_m_readLine_79 80 rfl rfl rfl ?_
          refine z_iload d_m_readLine_80 82 rfl rfl ?_
          refine zm_cV (fun v a f => v = .int (zb (cardB (gB bs k) (eol bs k - k)).isSome) ∧ a = va ∧ (∀ j, j < 12 → f j = upd (upd vf 11 (nI 0)) 10 (nI (eol bs k + 1)) j) ∧ ∀ c, cardB (gB bs k) (eol bs k - k) = some c → cdP c f) d_m_readLine_82 85 rfl mv_m_isCard kl_m_54 (by decide) (fun Q' h => c_m_isCard s k _ hr (by omega) (by omega) hs hl (fun f h1 h2 => h _ _ _ ⟨rfl, rfl, h1, h2⟩)) rfl rfl (Nat.le_of_ble_eq_true rfl) ?_; rintro _ _ f ⟨rfl, rfl, i1, i2⟩
          refine z_if_eqB (tgt := 98) d_m_readLine_85 88 rfl rfl (fun h85 => ?_) (fun h85 => ?_)
          · refine z_iconst (v := nI 1) d_m_readLine_98 99 rfl rfl ?_
            exact z_zretB (b := true) d_m_readLine_99 rfl (Nat.le_refl 0) (Nat.le_refl 0) (done1 h41 (by rw [hcg]; simpa using h85) _ (by rw [i1 9 (by decide), (p61 _ _).2.2]) (by rw [i1 10 (by decide), (p61 _ _).1]) (by rw [i1 11 (by decide), (p61 _ _).2.1]))
          · obtain ⟨c, hc⟩ := Option.isSome_iff_exists.mp h85
            refine z_aload_n d_m_readLine_88 89 rfl rfl rfl ?_
            refine z_aload_n d_m_readLine_89 90 rfl rfl rfl ?_
            refine z_iload_n d_m_readLine_90 91 rfl rfl rfl ?_
            refine z_iload_n d_m_readLine_91 92 rfl rfl rfl ?_
            refine zm_cV1 d_m_readLine_92 95 rfl mv_m_at kl_m_40 (by decide) (fun Q' h => c_m_at0 s k hr (by omega) hs hl h) rfl rfl (Nat.le_of_ble_eq_true rfl) ?_
            refine zm_putF 11 d_m_readLine_95 98 rfl (p_m_47 _) (by decide) (by decide) ?_
            refine z_iconst (v := nI 1) d_m_readLine_98 99 rfl rfl ?_
            have e : rdl bs k = some (eol bs k + 1, some c) := by simp [rdl, h41, hcg, hc]
            have hcd := i2 c hc
            have := hQ (upd f 11 (nI (gB bs k 0))) (by simp [upd]; rw [i1 9 (by decide), (p61 _ _).2.2]) (by rw [e]; refine ⟨?_, ?_, ?_⟩; (simp [upd]; rw [i1 10 (by decide), (p61 _ _).1]); (rw [cardB_1 hc, pk_us]); (simpa [cdP, upd] using hcd))
            rw [e] at this
            exact z_zretB (b := true) d_m_readLine_99 rfl (Nat.le_refl 0) (Nat.le_refl 0) this
    · refine z_iconst (v := nI 0) d_m_readLine_44 45 rfl rfl ?_
      have e : rdl bs k = none := by simp [rdl]; omega
      have := hQ (upd vf 11 (nI 0)) (by simp [upd]) (by rw [e]; simp [rdP, upd])
      rw [e] at this
      exact z_zretB (b := false) d_m_readLine_45 rfl (Nat.le_refl 0) (Nat.le_refl 0) this
  have loop : ∀ (c j : Nat), j + c = bs.length → k ≤ j → eolF bs c j = eol bs k → Z l D M_m_readLine 0 0 Q (zmod D o hp va vf) 0 0 2 [some (.ref o), some (.int (nI s)), some (.int (nI k)), some (.int (nI j)), none] [] := by
    intro c
    induction c with
    | zero =>
      intro j hj hkj he
      refine z_iload_n d_m_readLine_2 3 rfl rfl rfl ?_
      refine z_aload_n d_m_readLine_3 4 rfl rfl rfl ?_
      refine zm_getA 1 d_m_readLine_4 7 rfl f_m_13 rfl ?_
      refine z_iload_n d_m_readLine_7 8 rfl rfl rfl ?_
      refine zm_iald d_m_readLine_8 9 rfl (by decide) rfl (by simp only [zln]; omega) ?_
      rw [hlen]
      refine z_icmp_geN (tgt := 29) d_m_readLine_9 12 rfl rfl (by omega) (by omega) (fun h9 => ?_) (fun h9 => ?_)
      · rw [eolF] at he
        rw [he]
        exact fin
      · omega
    | succ c ih =>
      intro j hj hkj he
      have hbj := (hr j (by omega)).1
      refine z_iload_n d_m_readLine_2 3 rfl rfl rfl ?_
      refine z_aload_n d_m_readLine_3 4 rfl rfl rfl ?_
      refine zm_getA 1 d_m_readLine_4 7 rfl f_m_13 rfl ?_
      refine z_iload_n d_m_readLine_7 8 rfl rfl rfl ?_
      refine zm_iald d_m_readLine_8 9 rfl (by decide) rfl (by simp only [zln]; omega) ?_
      rw [hlen]
      refine z_icmp_geN (tgt := 29) d_m_readLine_9 12 rfl rfl (by omega) (by omega) (fun h9 => ?_) (fun h9 => ?_)
      · omega
      · refine z_aload_n d_m_readLine_12 13 rfl rfl rfl ?_
        refine z_iload_n d_m_readLine_13 14 rfl rfl rfl ?_
        refine z_iload_n d_m_readLine_14 15 rfl rfl rfl ?_
        refine zm_cV1 d_m_readLine_15 18 rfl mv_m_at kl_m_40 (by decide) (fun Q' h => c_m_at s j hr (by omega) (by omega) h) rfl rfl (Nat.le_of_ble_eq_true rfl) ?_
        refine z_bipush (v := nI 10) d_m_readLine_18 20 rfl rfl ?_
        refine z_icmp_eqN (tgt := 29) d_m_readLine_20 23 rfl rfl (by omega) (by omega) (fun h20 => ?_) (fun h20 => ?_)
        · rw [eolF, if_pos h20] at he
          rw [he]
          exact fin
        · rw [eolF, if_neg h20] at he
          first | refine z_incN3 d_m_readLine_23 26 rfl rfl ?_ | refine z_inc3 d_m_readLine_23 26 rfl rfl rfl ?_
          refine z_goto (tgt := 2) d_m_readLine_26 rfl ?_
          exact ih (j + 1) (by omega) (by omega) he
  refine z_iload_n d_m_readLine_0 1 rfl rfl rfl ?_
  refine z_ist3 d_m_readLine_1 2 rfl rfl ?_
  exact loop (bs.length - k) k (by omega) (by omega) rfl
end M5
end
section
/-! Rows: ints held against 0, diamonds. The reference: repositories, find, times. Own work. -/
section ZB2
variable {l : Launch} {D : zD} {M : zM} {mc ms : Nat} {Q : Option Value → zH → Prop} {hp : zH} {cu su pc : Nat} {lv : List (Option Value)} {rest : List Value}
theorem nI_z {a : Nat} (h : a < 2 ^ 31) : nI a = 0 ↔ a = 0 := nI_eq (b := 0) h (by decide)
theorem z_if_eqN {a : Nat} {off : Int} {tgt : Nat} (hd : decode M.2.1 pc = .ok (.ifCond .eq off, 3)) (pc' : Nat) (he : pc + 3 = pc') (ht : (pc : Int) + off = (tgt : Int)) (hb : a < 2 ^ 31) (kt : a = 0 → Z l D M mc ms Q hp cu su tgt lv rest) (kf : a ≠ 0 → Z l D M mc ms Q hp cu su pc' lv rest) : Z l D M mc ms Q hp cu su pc lv (.int (nI a) :: rest) :=
  z_if_eq hd pc' he ht (fun h => kt ((nI_z hb).1 h)) (fun h => kf (fun e => h ((nI_z hb).2 e)))
theorem z_if_neN {a : Nat} {off : Int} {tgt : Nat} (hd : decode M.2.1 pc = .ok (.ifCond .ne off, 3)) (pc' : Nat) (he : pc + 3 = pc') (ht : (pc : Int) + off = (tgt : Int)) (hb : a < 2 ^ 31) (kt : a ≠ 0 → Z l D M mc ms Q hp cu su tgt lv rest) (kf : a = 0 → Z l D M mc ms Q hp cu su pc' lv rest) : Z l D M mc ms Q hp cu su pc lv (.int (nI a) :: rest) :=
  z_if_ne hd pc' he ht (fun h => kt (fun e => h ((nI_z hb).2 e))) (fun h => kf ((nI_z hb).1 h))
theorem z_if_leN {a : Nat} {off : Int} {tgt : Nat} (hd : decode M.2.1 pc = .ok (.ifCond .le off, 3)) (pc' : Nat) (he : pc + 3 = pc') (ht : (pc : Int) + off = (tgt : Int)) (hb : a < 2 ^ 31) (kt : a = 0 → Z l D M mc ms Q hp cu su tgt lv rest) (kf : a ≠ 0 → Z l D M mc ms Q hp cu su pc' lv rest) : Z l D M mc ms Q hp cu su pc lv (.int (nI a) :: rest) :=
  z_if_le hd pc' he ht (fun h => kt (Nat.le_zero.mp ((nI_leI (b := 0) hb (by decide)).1 h))) (fun h => kf (fun e => h (by subst e; exact (nI_leI (a := 0) (b := 0) (by decide) (by decide)).2 (Nat.le_refl 0))))
theorem z_if_gtN {a : Nat} {off : Int} {tgt : Nat} (hd : decode M.2.1 pc = .ok (.ifCond .gt off, 3)) (pc' : Nat) (he : pc + 3 = pc') (ht : (pc : Int) + off = (tgt : Int)) (hb : a < 2 ^ 31) (kt : a ≠ 0 → Z l D M mc ms Q hp cu su tgt lv rest) (kf : a = 0 → Z l D M mc ms Q hp cu su pc' lv rest) : Z l D M mc ms Q hp cu su pc lv (.int (nI a) :: rest) :=
  z_if_gt hd pc' he ht (fun h => kt (fun e => by subst e; exact absurd h (by decide))) (fun h => kf (Nat.le_zero.mp (Nat.le_of_not_lt fun q => h ((nI_ltI (a := 0) (by decide) hb).2 q))))
theorem z_dia_ne {a b : Nat} {off off2 : Int} {pc1 pc2 tgt : Nat} (hd : decode M.2.1 pc = .ok (.if_icmp .ne off, 3)) (d1 : decode M.2.1 pc1 = .ok (.iconst 1, 1)) (d2 : decode M.2.1 pc2 = .ok (.goto off2, 3)) (d3 : decode M.2.1 tgt = .ok (.iconst 0, 1)) (pcE : Nat) (e1 : pc + 3 = pc1) (e2 : pc1 + 1 = pc2) (ht : (pc : Int) + off = (tgt : Int)) (hg : (pc2 : Int) + off2 = (pcE : Int)) (e3 : tgt + 1 = pcE) (ha : a < 2 ^ 31) (hb : b < 2 ^ 31)
    (k : Z l D M mc ms Q hp cu su pcE lv (.int (nI (if a = b then 1 else 0)) :: rest)) : Z l D M mc ms Q hp cu su pc lv (.int (nI b) :: .int (nI a) :: rest) := by
  refine z_icmp_neN hd pc1 e1 ht ha hb (fun h => ?_) (fun h => ?_)
  · rw [if_neg h] at k
    exact z_iconst (v := nI 0) d3 pcE e3 rfl k
  · rw [if_pos h] at k
    exact z_iconst (v := nI 1) d1 pc2 e2 rfl (z_goto d2 hg k)
end ZB2
def isRp (r : Int32) : Bool := decide (r = nI 0) || decide (r = nI 1)
/-- what a slot holds: the bytes and their number -/
def slotP (va : Nat → Nat → Int32) (s : Nat) (bs : List Nat) : Prop := zrow va s bs ∧ va 1 s = nI bs.length ∧ bs.length ≤ 240
/-- what a repository holds, in the order of its slots -/
def repP (va : Nat → Nat → Int32) (r : Nat) (As : List (List Nat)) : Prop := As.length ≤ 32 ∧ va 3 r = nI As.length ∧ ∀ i, i < As.length → slotP va (32 * r + i) (As.getD i []) ∧ va 2 (32 * r + i) = nI (dg 7 (As.getD i []))
def fnd (nm : Int32) : List (List Nat) → Nat → Option Nat
  | [], _ => none
  | a :: t, i => if nI (dg 7 a) = nm then some i else fnd nm t (i + 1)
theorem drop_cons {As : List (List Nat)} {j : Nat} (h : j < As.length) : As.drop j = As.getD j [] :: As.drop (j + 1) := by
  rw [List.drop_eq_getElem_cons h, List.getD_eq_getElem?_getD, List.getElem?_eq_getElem h]
  rfl
theorem dg7 (bs : List Nat) : dg 7 bs < 16777213 := dg_lt (by decide) bs
section M6
variable {l : Launch} {D : zD} {hp : zH} {o : Nat} {va : Nat → Nat → Int32} {vf : Nat → Int32} {Q : Option Value → zH → Prop}
theorem c_m_isRepository (r : Int32) (hQ : Q (some (.int (zb (isRp r)))) hp) : Runs l D M_m_isRepository [.int r] hp 0 0 Q := by
  refine Runs.of rfl rfl (Nat.le_of_ble_eq_true rfl) ?_
  refine z_iload_n d_m_isRepository_0 1 rfl rfl rfl ?_
  refine z_if_eq (tgt := 9) d_m_isRepository_1 4 rfl rfl (fun h1 => ?_) (fun h1 => ?_)
  · refine z_iconst (v := nI 1) d_m_isRepository_9 10 rfl rfl ?_
    refine z_goto (tgt := 14) d_m_isRepository_10 rfl ?_
    exact z_zretB (b := true) d_m_isRepository_14 rfl (Nat.le_refl 0) (Nat.le_refl 0) (by rw [show isRp r = true by first | (rw [isRp, show r = nI 0 from h1]; rfl) | (rw [isRp, show r = nI 1 from h6]; rfl) | (have a : ¬ r = nI 0 := h1; have b : ¬ r = nI 1 := h6; simp [isRp, a, b])] at hQ; exact hQ)
  · refine z_iload_n d_m_isRepository_4 5 rfl rfl rfl ?_
    refine z_iconst (v := nI 1) d_m_isRepository_5 6 rfl rfl ?_
    refine z_icmp_ne (tgt := 13) d_m_isRepository_6 9 rfl rfl (fun h6 => ?_) (fun h6 => ?_)
    · refine z_iconst (v := nI 0) d_m_isRepository_13 14 rfl rfl ?_
      exact z_zretB (b := false) d_m_isRepository_14 rfl (Nat.le_refl 0) (Nat.le_refl 0) (by rw [show isRp r = false by first | (rw [isRp, show r = nI 0 from h1]; rfl) | (rw [isRp, show r = nI 1 from h6]; rfl) | (have a : ¬ r = nI 0 := h1; have b : ¬ r = nI 1 := h6; simp [isRp, a, b])] at hQ; exact hQ)
    · refine z_iconst (v := nI 1) d_m_isRepository_9 10 rfl rfl ?_
      refine z_goto (tgt := 14) d_m_isRepository_10 rfl ?_
      exact z_zretB (b := true) d_m_isRepository_14 rfl (Nat.le_refl 0) (Nat.le_refl 0) (by rw [show isRp r = true by first | (rw [isRp, show r = nI 0 from h1]; rfl) | (rw [isRp, show r = nI 1 from h6]; rfl) | (have a : ¬ r = nI 0 := h1; have b : ¬ r = nI 1 := h6; simp [isRp, a, b])] at hQ; exact hQ)
theorem c_m_find (r : Nat) (nm : Int32) {As : List (List Nat)} (hr2 : r < 2) (hR : repP va r As) (hQ : Q (some (.int (oI (fnd nm As (32 * r))))) (zmod D o hp va vf)) : Runs l D M_m_find [.ref o, .int (nI r), .int nm] (zmod D o hp va vf) 0 0 Q := by
  refine Runs.of rfl rfl (Nat.le_of_ble_eq_true rfl) ?_
  obtain ⟨h32, hmany, hslot⟩ := hR
  refine z_bipush (v := nI 32) d_m_find_0 2 rfl rfl ?_
  refine z_iload_n d_m_find_2 3 rfl rfl rfl ?_
  first | refine z_imulN d_m_find_3 4 rfl ?_ | refine z_imul d_m_find_3 4 rfl ?_
  refine z_ist3 d_m_find_4 5 rfl rfl ?_
  have loop : ∀ (c j : Nat), j + c = As.length → fnd nm (As.drop j) (32 * r + j) = fnd nm As (32 * r) → Z l D M_m_find 0 0 Q (zmod D o hp va vf) 0 0 5 [some (.ref o), some (.int (nI r)), some (.int nm), some (.int (nI (32 * r + j)))] [] := by
    intro c
    induction c with
    | zero =>
      intro j hj hf
      refine z_iload_n d_m_find_5 6 rfl rfl rfl ?_
      refine z_bipush (v := nI 32) d_m_find_6 8 rfl rfl ?_
      refine z_iload_n d_m_find_8 9 rfl rfl rfl ?_
      first | refine z_imulN d_m_find_9 10 rfl ?_ | refine z_imul d_m_find_9 10 rfl ?_
      refine z_aload_n d_m_find_10 11 rfl rfl rfl ?_
      refine zm_getA 3 d_m_find_11 14 rfl f_m_20 rfl ?_
      refine z_iload_n d_m_find_14 15 rfl rfl rfl ?_
      refine zm_iald d_m_find_15 16 rfl (by decide) rfl (by simp only [zln]; omega) ?_
      rw [hmany]
      first | refine z_iaddN d_m_find_16 17 rfl ?_ | refine z_iadd d_m_find_16 17 rfl ?_
      refine z_icmp_geN (tgt := 38) d_m_find_17 20 rfl rfl (by omega) (by omega) (fun h17 => ?_) (fun h17 => ?_)
      · rw [List.drop_eq_nil_of_le (by omega)] at hf
        rw [← hf] at hQ
        refine z_iconst (v := oI none) d_m_find_38 39 rfl (by decide) ?_
        exact z_iret d_m_find_39 rfl (Nat.le_refl 0) (Nat.le_refl 0) hQ
      · omega
    | succ c ih =>
      intro j hj hf
      refine z_iload_n d_m_find_5 6 rfl rfl rfl ?_
      refine z_bipush (v := nI 32) d_m_find_6 8 rfl rfl ?_
      refine z_iload_n d_m_find_8 9 rfl rfl rfl ?_
      first | refine z_imulN d_m_find_9 10 rfl ?_ | refine z_imul d_m_find_9 10 rfl ?_
      refine z_aload_n d_m_find_10 11 rfl rfl rfl ?_
      refine zm_getA 3 d_m_find_11 14 rfl f_m_20 rfl ?_
      refine z_iload_n d_m_find_14 15 rfl rfl rfl ?_
      refine zm_iald d_m_find_15 16 rfl (by decide) rfl (by simp only [zln]; omega) ?_
      rw [hmany]
      first | refine z_iaddN d_m_find_16 17 rfl ?_ | refine z_iadd d_m_find_16 17 rfl ?_
      refine z_icmp_geN (tgt := 38) d_m_find_17 20 rfl rfl (by omega) (by omega) (fun h17 => ?_) (fun h17 => ?_)
      · omega
      · rw [drop_cons (by omega), fnd] at hf
        refine z_aload_n d_m_find_20 21 rfl rfl rfl ?_
        refine zm_getA 2 d_m_find_21 24 rfl f_m_17 rfl ?_
        refine z_iload_n d_m_find_24 25 rfl rfl rfl ?_
        refine zm_iald d_m_find_25 26 rfl (by decide) rfl (by simp only [zln]; omega) ?_
        rw [(hslot j (by omega)).2]
        refine z_iload_n d_m_find_26 27 rfl rfl rfl ?_
        refine z_icmp_ne (tgt := 32) d_m_find_27 30 rfl rfl (fun h27 => ?_) (fun h27 => ?_)
        · rw [if_neg h27] at hf
          first | refine z_incN3 d_m_find_32 35 rfl rfl ?_ | refine z_inc3 d_m_find_32 35 rfl rfl rfl ?_
          refine z_goto (tgt := 5) d_m_find_35 rfl ?_
          exact ih (j + 1) (by omega) hf
        · rw [if_pos h27] at hf
          rw [← hf] at hQ
          refine z_iload_n d_m_find_30 31 rfl rfl rfl ?_
          exact z_iret d_m_find_31 rfl (Nat.le_refl 0) (Nat.le_refl 0) hQ
  exact loop As.length 0 (by omega) rfl
theorem c_m_timeOf (s : Nat) {bs : List Nat} (hr : slotP va s bs) (hs : s < 66)
    (hQ : ∀ f : Nat → Int32, f 9 = vf 9 → rdP (rdl bs 0) f → Q (some (.int (f 16))) (zmod D o hp va f)) : Runs l D M_m_timeOf [.ref o, .int (nI s)] (zmod D o hp va vf) 0 0 Q := by
  refine Runs.of rfl rfl (Nat.le_of_ble_eq_true rfl) ?_
  refine z_aload_n d_m_timeOf_0 1 rfl rfl rfl ?_
  refine z_iload_n d_m_timeOf_1 2 rfl rfl rfl ?_
  refine z_iconst (v := nI 0) d_m_timeOf_2 3 rfl rfl ?_
  refine zm_cV (fun v a f => (∃ x, v = .int x) ∧ a = va ∧ f 9 = vf 9 ∧ rdP (rdl bs 0) f) d_m_timeOf_3 6 rfl mv_m_readLine kl_m_90 (by decide) (fun Q' h => c_m_readLine s 0 hr.1 hr.2.1 (Nat.zero_le _) hs hr.2.2 (fun f h1 h2 => h _ _ _ ⟨⟨_, rfl⟩, rfl, h1, h2⟩)) rfl rfl (Nat.le_of_ble_eq_true rfl) ?_; rintro _ _ f ⟨⟨x, rfl⟩, rfl, i1, i2⟩
  refine z_pop d_m_timeOf_6 7 rfl rfl ?_
  refine z_aload_n d_m_timeOf_7 8 rfl rfl rfl ?_
  refine zm_getF 16 d_m_timeOf_8 11 rfl f_m_83 rfl ?_
  exact z_iret d_m_timeOf_11 rfl (Nat.le_refl 0) (Nat.le_refl 0) (hQ f i1 i2)
end M6
end
section
/-! The reference: what the lines of a text say. Own work. -/
/-- what holds of every card -/
def cvOk (c : CV) : Prop := (c.1 = 68 ∨ c.1 = 70 ∨ c.1 = 77 ∨ c.1 = 80 ∨ c.1 = 82 ∨ c.1 = 84 ∨ c.1 = 90) ∧ (∀ v, c.2.2.2.1 = some v → v < 16777216) ∧ (∀ v, c.2.2.2.2.1 = some v → v < 16777216) ∧ c.2.1 ≤ 9 ∧ c.2.2.2.2.2 ≤ 9999 ∧ (c.1 = 68 → c.2.2.2.1 = none) ∧ (c.1 ≠ 68 → c.1 ≠ 84 → c.2.2.2.1.isSome = true) ∧ (c.1 ≠ 80 → c.2.2.2.2.1 = none)
theorem cardB_ok {g : Nat → Nat} {n : Nat} {c : CV} (hn : 3 ≤ n) (h : cardB g n = some c) : cvOk c := by
  simp only [cardB] at h
  split at h
  next h0 =>
    simp only [cardD] at h
    split at h
    next h1 =>
      cases h
      refine ⟨Or.inl rfl, by simp, by simp, by simp, ?_, by simp, by simp, by simp⟩
      have h2 := nuF_lt g (n - 2) 2 0 h1.2.2
      have h3 : 10 ^ (n - 2) ≤ 10 ^ 4 := Nat.pow_le_pow_right (by decide) (by omega)
      show nuF g 2 (n - 2) 0 ≤ 9999
      omega
    next => cases h
  next h0 =>
    split at h
    next h1 =>
      simp only [card1] at h
      split at h
      · obtain ⟨v, hv, rfl⟩ := Option.map_eq_some_iff.mp h
        have := nm6_lt hv
        refine ⟨?_, by simpa using this, by simp, by simp, by simp, ?_, by simp, by simp⟩
        · show g 0 = 68 ∨ g 0 = 70 ∨ g 0 = 77 ∨ g 0 = 80 ∨ g 0 = 82 ∨ g 0 = 84 ∨ g 0 = 90
          omega
        · intro h9; exact absurd h9 h0
      · cases h
    next =>
      split at h
      next h1 =>
        simp only [cardF] at h
        split at h
        next h2 =>
          obtain ⟨v, hv, rfl⟩ := Option.map_eq_some_iff.mp h
          have := nm6_lt hv
          have h3 := h2.2.2
          simp only [isDg, Bool.and_eq_true, decide_eq_true_eq] at h3
          refine ⟨by simp, by simpa using this, by simp, ?_, by simp, by simp, by simp, by simp⟩
          show g 2 - 48 ≤ 9
          omega
        · cases h
      next =>
        split at h
        next h1 =>
          simp only [cardP] at h
          split at h
          · obtain ⟨v, hv, rfl⟩ := Option.map_eq_some_iff.mp h
            have := nm6_lt hv
            exact ⟨by simp, by simpa using this, by simp, by simp, by simp, by simp, by simp, by simp⟩
          · split at h
            · obtain ⟨a, ha, h⟩ := Option.bind_eq_some_iff.mp h
              obtain ⟨b, hb, h⟩ := Option.bind_eq_some_iff.mp h
              have h5 := nm6_lt ha
              have h6 := nm6_lt hb
              split at h
              · cases h
              · cases h
                exact ⟨by simp, by simpa using h5, by simpa using h6, by simp, by simp, by simp, by simp, by simp⟩
            · cases h
        next =>
          split at h
          next h1 =>
            simp only [cardT] at h
            split at h
            next h2 =>
              have h3 := h2.2.2.1
              simp only [isDg, Bool.and_eq_true, decide_eq_true_eq] at h3
              split at h
              · split at h
                · cases h
                  refine ⟨by simp, by simp, by simp, ?_, by simp, by simp, by simp, by simp⟩
                  show g 3 - 48 ≤ 9
                  omega
                · cases h
              · obtain ⟨v, hv, rfl⟩ := Option.map_eq_some_iff.mp h
                have := nm6_lt hv
                refine ⟨by simp, by simpa using this, by simp, ?_, by simp, by simp, by simp, by simp⟩
                show g 3 - 48 ≤ 9
                omega
            · cases h
          next => cases h
theorem cardG_ok {g : Nat → Nat} {n : Nat} {c : CV} (h : cardG g n = some c) : cvOk c := by
  simp only [cardG] at h
  split at h
  next h1 => exact cardB_ok h1.1 h
  next => cases h
theorem rdl_some {bs : List Nat} {k e : Nat} {cd : Option CV} (hk : k ≤ bs.length) (h : rdl bs k = some (e, cd)) : k < e ∧ e ≤ bs.length ∧ ∀ c, cd = some c → cvOk c := by
  simp only [rdl] at h
  split at h
  next h1 =>
    cases h
    have := eol_le hk
    exact ⟨by omega, by omega, fun c hc => cardG_ok hc⟩
  next => cases h
/-- the cards of the lines from k on -/
def lnsF (bs : List Nat) : Nat → Nat → List (Option CV)
  | 0, _ => []
  | c + 1, k => if k < bs.length then (match rdl bs k with
    | none => []
    | some (e, cd) => cd :: lnsF bs c e) else []
def lns (bs : List Nat) : List (Option CV) := lnsF bs bs.length 0
theorem lnsF_end {bs : List Nat} {c k : Nat} (h : bs.length ≤ k) : lnsF bs c k = [] := by
  cases c with
  | zero => rfl
  | succ c => rw [lnsF, if_neg (by omega)]
theorem lnsF_none {bs : List Nat} {c k : Nat} (h : rdl bs k = none) : lnsF bs c k = [] := by
  cases c with
  | zero => rfl
  | succ c =>
    rw [lnsF]
    split
    · rw [h]
    · rfl
theorem lnsF_some {bs : List Nat} {c k e : Nat} {cd : Option CV} (hk : k < bs.length) (h : rdl bs k = some (e, cd)) : lnsF bs (c + 1) k = cd :: lnsF bs c e := by
  rw [lnsF, if_pos hk, h]
def hasL (w : Nat) (nm : Int32) : List (Option CV) → Bool
  | [] => false
  | none :: t => hasL w nm t
  | some c :: t => (decide (c.1 = w) && (decide (oI c.2.2.2.1 = nm) || decide (oI c.2.2.2.2.1 = nm))) || hasL w nm t
def lk (As : List (List Nat)) (nm : Int32) : Option (List Nat) := As.find? fun a => decide (nI (dg 7 a) = nm)
def filesL (As : List (List Nat)) : List (Option CV) → Nat → Option Nat
  | [], d => some d
  | none :: t, d => filesL As t d
  | some c :: t, d => if c.1 = 70 then (match lk As (oI c.2.2.2.1) with
    | none => none
    | some b => filesL As t (dg d b)) else filesL As t d
theorem fnd_lk (nm : Int32) : ∀ (As : List (List Nat)) (i : Nat), (fnd nm As i = none → lk As nm = none) ∧ ∀ q, fnd nm As i = some q → i ≤ q ∧ q - i < As.length ∧ lk As nm = some (As.getD (q - i) []) ∧ nI (dg 7 (As.getD (q - i) [])) = nm := by
  intro As
  induction As with
  | nil => intro i; exact ⟨fun _ => rfl, fun q h => by cases h⟩
  | cons a t ih =>
    intro i
    by_cases h : nI (dg 7 a) = nm
    · refine ⟨fun h1 => by simp [fnd, h] at h1, fun q h1 => ?_⟩
      simp [fnd, h] at h1
      subst h1
      simp [lk, h]
    · obtain ⟨h1, h2⟩ := ih (i + 1)
      refine ⟨fun h3 => ?_, fun q h3 => ?_⟩
      · rw [fnd, if_neg h] at h3
        have := h1 h3
        simp only [lk] at this ⊢
        rw [List.find?_cons_of_neg (by simpa using h)]
        exact this
      · rw [fnd, if_neg h] at h3
        obtain ⟨b1, b2, b3, b4⟩ := h2 q h3
        have e : q - i = q - (i + 1) + 1 := by omega
        rw [e]
        refine ⟨by omega, by simp; omega, ?_, by simpa using b4⟩
        simp only [lk] at b3 ⊢
        rw [List.find?_cons_of_neg (by simpa using h), b3]
        simp
section M7
variable {l : Launch} {D : zD} {hp : zH} {o : Nat} {va : Nat → Nat → Int32} {vf : Nat → Int32} {Q : Option Value → zH → Prop}
theorem c_m_has (s w : Nat) (nm : Int32) {bs : List Nat} (hr : slotP va s bs) (hs : s < 66) (hw : 0 < w ∧ w < 256)
    (hQ : ∀ f : Nat → Int32, f 9 = vf 9 → Q (some (.int (zb (hasL w nm (lns bs))))) (zmod D o hp va f)) : Runs l D M_m_has [.ref o, .int (nI s), .int (nI w), .int nm] (zmod D o hp va vf) 0 0 Q := by
  refine Runs.of rfl rfl (Nat.le_of_ble_eq_true rfl) ?_
  obtain ⟨hr1, hlen, hl⟩ := hr
  have loop : ∀ (c k : Nat) (b : Bool) (f : Nat → Int32), bs.length ≤ k + c → k ≤ bs.length → f 9 = vf 9 → hasL w nm (lns bs) = (b || hasL w nm (lnsF bs c k)) → Z l D M_m_has 0 0 Q (zmod D o hp va f) 0 0 6 [some (.ref o), some (.int (nI s)), some (.int (nI w)), some (.int nm), some (.int (zb b)), some (.int (nI k))] [] := by
    intro c
    induction c with
    | zero =>
      intro k b f hc hk hf he
      refine z_iload d_m_has_6 8 rfl rfl ?_
      refine z_aload_n d_m_has_8 9 rfl rfl rfl ?_
      refine zm_getA 1 d_m_has_9 12 rfl f_m_13 rfl ?_
      refine z_iload_n d_m_has_12 13 rfl rfl rfl ?_
      refine zm_iald d_m_has_13 14 rfl (by decide) rfl (by simp only [zln]; omega) ?_
      rw [hlen]
      refine z_icmp_geN (tgt := 72) d_m_has_14 17 rfl rfl (by omega) (by omega) (fun h14 => ?_) (fun h14 => ?_)
      · rw [lnsF_end (by omega), hasL, Bool.or_false] at he
        refine z_iload d_m_has_72 74 rfl rfl ?_
        exact z_zretB d_m_has_74 rfl (Nat.le_refl 0) (Nat.le_refl 0) (by rw [← he]; exact hQ f hf)
      · omega
    | succ c ih =>
      intro k b f hc hk hf he
      refine z_iload d_m_has_6 8 rfl rfl ?_
      refine z_aload_n d_m_has_8 9 rfl rfl rfl ?_
      refine zm_getA 1 d_m_has_9 12 rfl f_m_13 rfl ?_
      refine z_iload_n d_m_has_12 13 rfl rfl rfl ?_
      refine zm_iald d_m_has_13 14 rfl (by decide) rfl (by simp only [zln]; omega) ?_
      rw [hlen]
      refine z_icmp_geN (tgt := 72) d_m_has_14 17 rfl rfl (by omega) (by omega) (fun h14 => ?_) (fun h14 => ?_)
      · rw [lnsF_end (by omega), hasL, Bool.or_false] at he
        refine z_iload d_m_has_72 74 rfl rfl ?_
        exact z_zretB d_m_has_74 rfl (Nat.le_refl 0) (Nat.le_refl 0) (by rw [← he]; exact hQ f hf)
      · refine z_iload d_m_has_17 19 rfl rfl ?_
        refine z_if_neB (tgt := 72) d_m_has_19 22 rfl rfl (fun h19 => ?_) (fun h19 => ?_)
        · subst h19
          rw [Bool.true_or] at he
          refine z_iload d_m_has_72 74 rfl rfl ?_
          exact z_zretB d_m_has_74 rfl (Nat.le_refl 0) (Nat.le_refl 0) (by rw [← he]; exact hQ f hf)
        · subst h19
          refine z_aload_n d_m_has_22 23 rfl rfl rfl ?_
          refine z_iload_n d_m_has_23 24 rfl rfl rfl ?_
          refine z_iload d_m_has_24 26 rfl rfl ?_
          refine zm_cV (fun v a f' => v = .int (zb (rdl bs k).isSome) ∧ va = a ∧ f' 9 = f 9 ∧ rdP (rdl bs k) f') d_m_has_26 29 rfl mv_m_readLine kl_m_90 (by decide) (fun Q' h => c_m_readLine s k hr1 hlen hk hs hl (fun f h1 h2 => h _ _ _ ⟨rfl, rfl, h1, h2⟩)) rfl rfl (Nat.le_of_ble_eq_true rfl) ?_; rintro _ _ g ⟨rfl, rfl, i1, i2⟩
          refine z_if_eqB (tgt := 72) d_m_has_29 32 rfl rfl (fun h29 => ?_) (fun h29 => ?_)
          · rw [lnsF_none (by simpa using h29), hasL, Bool.or_false] at he
            refine z_iload d_m_has_72 74 rfl rfl ?_
            exact z_zretB d_m_has_74 rfl (Nat.le_refl 0) (Nat.le_refl 0) (by rw [← he]; exact hQ g (i1.trans hf))
          · obtain ⟨⟨e, cd⟩, hrd⟩ := Option.isSome_iff_exists.mp h29
            obtain ⟨e1, e2, e3⟩ := rdl_some hk hrd
            rw [lnsF_some (by omega) hrd, Bool.false_or] at he
            rw [hrd] at i2
            have fin : ∀ b', hasL w nm (lns bs) = (b' || hasL w nm (lnsF bs c e)) → Z l D M_m_has 0 0 Q (zmod D o hp va g) 0 0 61 [some (.ref o), some (.int (nI s)), some (.int (nI w)), some (.int nm), some (.int (zb false)), some (.int (nI k))] [.int (zb b')] := by
              intro b' hb'
              have g10 : g 10 = nI e := by cases cd with
                | none => exact i2.1
                | some c => exact i2.1
              refine z_ist4 d_m_has_61 63 rfl rfl ?_
              refine z_aload_n d_m_has_63 64 rfl rfl rfl ?_
              refine zm_getF 10 d_m_has_64 67 rfl f_m_51 rfl ?_; try simp only [pk_us, pk_un, ne_eq, Nat.reduceEqDiff, not_false_eq_true]
              rw [g10]
              refine z_ist5 d_m_has_67 69 rfl rfl ?_
              refine z_goto (tgt := 6) d_m_has_69 rfl ?_
              exact ih e b' g (by omega) e2 (i1.trans hf) hb'
            cases cd with
            | none =>
              refine z_aload_n d_m_has_32 33 rfl rfl rfl ?_
              refine zm_getF 11 d_m_has_33 36 rfl f_m_47 rfl ?_; try simp only [pk_us, pk_un, ne_eq, Nat.reduceEqDiff, not_false_eq_true]
              rw [i2.2]
              refine z_iload_n d_m_has_36 37 rfl rfl rfl ?_
              refine z_icmp_neN (tgt := 60) d_m_has_37 40 rfl rfl (by omega) (by omega) (fun h37 => ?_) (fun h37 => ?_)
              · refine z_iconst (v := nI 0) d_m_has_60 61 rfl rfl ?_
                exact fin false (by rw [he, hasL, Bool.false_or])
              · omega
            | some c =>
              obtain ⟨i3, i4, i5, i6, -⟩ := i2
              have hc1 := (e3 c rfl).1
              refine z_aload_n d_m_has_32 33 rfl rfl rfl ?_
              refine zm_getF 11 d_m_has_33 36 rfl f_m_47 rfl ?_; try simp only [pk_us, pk_un, ne_eq, Nat.reduceEqDiff, not_false_eq_true]
              rw [i4]
              refine z_iload_n d_m_has_36 37 rfl rfl rfl ?_
              refine z_icmp_neN (tgt := 60) d_m_has_37 40 rfl rfl (by omega) (by omega) (fun h37 => ?_) (fun h37 => ?_)
              · refine z_iconst (v := nI 0) d_m_has_60 61 rfl rfl ?_
                exact fin false (by rw [he, hasL]; simp [h37])
              · refine z_aload_n d_m_has_40 41 rfl rfl rfl ?_
                refine zm_getF 14 d_m_has_41 44 rfl f_m_58 rfl ?_; try simp only [pk_us, pk_un, ne_eq, Nat.reduceEqDiff, not_false_eq_true]
                rw [i5]
                refine z_iload_n d_m_has_44 45 rfl rfl rfl ?_
                refine z_icmp_eq (tgt := 56) d_m_has_45 48 rfl rfl (fun h45 => ?_) (fun h45 => ?_)
                · refine z_iconst (v := nI 1) d_m_has_56 57 rfl rfl ?_
                  refine z_goto (tgt := 61) d_m_has_57 rfl ?_
                  exact fin true (by rw [he, hasL]; simp [h37, h45])
                · refine z_aload_n d_m_has_48 49 rfl rfl rfl ?_
                  refine zm_getF 15 d_m_has_49 52 rfl f_m_61 rfl ?_; try simp only [pk_us, pk_un, ne_eq, Nat.reduceEqDiff, not_false_eq_true]
                  rw [i6]
                  refine z_iload_n d_m_has_52 53 rfl rfl rfl ?_
                  refine z_icmp_ne (tgt := 60) d_m_has_53 56 rfl rfl (fun h53 => ?_) (fun h53 => ?_)
                  · refine z_iconst (v := nI 0) d_m_has_60 61 rfl rfl ?_
                    exact fin false (by rw [he, hasL]; simp [h37, h45, h53])
                  · refine z_iconst (v := nI 1) d_m_has_56 57 rfl rfl ?_
                    refine z_goto (tgt := 61) d_m_has_57 rfl ?_
                    exact fin true (by rw [he, hasL]; simp [h37, h45, h53])
  refine z_iconst (v := nI 0) d_m_has_0 1 rfl rfl ?_
  refine z_ist4 d_m_has_1 3 rfl rfl ?_
  refine z_iconst (v := nI 0) d_m_has_3 4 rfl rfl ?_
  refine z_ist5 d_m_has_4 6 rfl rfl ?_
  exact loop bs.length 0 false vf (by omega) (Nat.zero_le _) rfl (by rw [Bool.false_or]; rfl)
theorem c_m_filesOf (r s : Nat) {As : List (List Nat)} {bs : List Nat} (hr2 : r < 2) (hR : repP va r As) (hr : slotP va s bs) (hs : s < 66)
    (hQ : ∀ f : Nat → Int32, f 9 = vf 9 → Q (some (.int (oI (filesL As (lns bs) 7)))) (zmod D o hp va f)) : Runs l D M_m_filesOf [.ref o, .int (nI r), .int (nI s)] (zmod D o hp va vf) 0 0 Q := by
  refine Runs.of rfl rfl (Nat.le_of_ble_eq_true rfl) ?_
  obtain ⟨hr1, hlen, hl⟩ := hr
  have loop : ∀ (c k d : Nat) (f : Nat → Int32) (z : Option Value), bs.length ≤ k + c → k ≤ bs.length → d < 16777213 → f 9 = vf 9 → filesL As (lns bs) 7 = filesL As (lnsF bs c k) d → Z l D M_m_filesOf 0 0 Q (zmod D o hp va f) 0 0 6 [some (.ref o), some (.int (nI r)), some (.int (nI s)), some (.int (nI d)), some (.int (nI k)), z] [] := by
    intro c
    induction c with
    | zero =>
      intro k d f z hc hk hd hf he
      refine z_iload d_m_filesOf_6 8 rfl rfl ?_
      refine z_aload_n d_m_filesOf_8 9 rfl rfl rfl ?_
      refine zm_getA 1 d_m_filesOf_9 12 rfl f_m_13 rfl ?_
      refine z_iload_n d_m_filesOf_12 13 rfl rfl rfl ?_
      refine zm_iald d_m_filesOf_13 14 rfl (by decide) rfl (by simp only [zln]; omega) ?_
      rw [hlen]
      refine z_icmp_geN (tgt := 78) d_m_filesOf_14 17 rfl rfl (by omega) (by omega) (fun h14 => ?_) (fun h14 => ?_)
      · rw [lnsF_end (by omega), filesL] at he
        refine z_iload_n d_m_filesOf_78 79 rfl rfl rfl ?_
        exact z_iret d_m_filesOf_79 rfl (Nat.le_refl 0) (Nat.le_refl 0) (by have := hQ f hf; rw [he] at this; exact this)
      · omega
    | succ c ih =>
      intro k d f z hc hk hd hf he
      refine z_iload d_m_filesOf_6 8 rfl rfl ?_
      refine z_aload_n d_m_filesOf_8 9 rfl rfl rfl ?_
      refine zm_getA 1 d_m_filesOf_9 12 rfl f_m_13 rfl ?_
      refine z_iload_n d_m_filesOf_12 13 rfl rfl rfl ?_
      refine zm_iald d_m_filesOf_13 14 rfl (by decide) rfl (by simp only [zln]; omega) ?_
      rw [hlen]
      refine z_icmp_geN (tgt := 78) d_m_filesOf_14 17 rfl rfl (by omega) (by omega) (fun h14 => ?_) (fun h14 => ?_)
      · rw [lnsF_end (by omega), filesL] at he
        refine z_iload_n d_m_filesOf_78 79 rfl rfl rfl ?_
        exact z_iret d_m_filesOf_79 rfl (Nat.le_refl 0) (Nat.le_refl 0) (by have := hQ f hf; rw [he] at this; exact this)
      · refine z_aload_n d_m_filesOf_17 18 rfl rfl rfl ?_
        refine z_iload_n d_m_filesOf_18 19 rfl rfl rfl ?_
        refine z_iload d_m_filesOf_19 21 rfl rfl ?_
        refine zm_cV (fun v a f' => v = .int (zb (rdl bs k).isSome) ∧ va = a ∧ f' 9 = f 9 ∧ rdP (rdl bs k) f') d_m_filesOf_21 24 rfl mv_m_readLine kl_m_90 (by decide) (fun Q' h => c_m_readLine s k hr1 hlen hk hs hl (fun f h1 h2 => h _ _ _ ⟨rfl, rfl, h1, h2⟩)) rfl rfl (Nat.le_of_ble_eq_true rfl) ?_; rintro _ _ g ⟨rfl, rfl, i1, i2⟩
        refine z_if_eqB (tgt := 78) d_m_filesOf_24 27 rfl rfl (fun h24 => ?_) (fun h24 => ?_)
        · rw [lnsF_none (by simpa using h24), filesL] at he
          refine z_iload_n d_m_filesOf_78 79 rfl rfl rfl ?_
          exact z_iret d_m_filesOf_79 rfl (Nat.le_refl 0) (Nat.le_refl 0) (by have := hQ g (i1.trans hf); rw [he] at this; exact this)
        · obtain ⟨⟨e, cd⟩, hrd⟩ := Option.isSome_iff_exists.mp h24
          obtain ⟨e1, e2, e3⟩ := rdl_some hk hrd
          rw [lnsF_some (by omega) hrd] at he
          rw [hrd] at i2
          have g10 : g 10 = nI e := by cases cd with
            | none => exact i2.1
            | some c => exact i2.1
          refine z_aload_n d_m_filesOf_27 28 rfl rfl rfl ?_
          refine zm_getF 10 d_m_filesOf_28 31 rfl f_m_51 rfl ?_; try simp only [pk_us, pk_un, ne_eq, Nat.reduceEqDiff, not_false_eq_true]
          rw [g10]
          refine z_ist4 d_m_filesOf_31 33 rfl rfl ?_
          refine z_aload_n d_m_filesOf_33 34 rfl rfl rfl ?_
          refine zm_getF 11 d_m_filesOf_34 37 rfl f_m_47 rfl ?_; try simp only [pk_us, pk_un, ne_eq, Nat.reduceEqDiff, not_false_eq_true]
          cases cd with
          | none =>
            rw [i2.2]
            refine z_bipush (v := nI 70) d_m_filesOf_37 39 rfl rfl ?_
            refine z_icmp_neN (tgt := 6) d_m_filesOf_39 42 rfl rfl (by omega) (by omega) (fun h39 => ?_) (fun h39 => ?_)
            · exact ih e d g z (by omega) e2 hd (i1.trans hf) he
            · omega
          | some c =>
            obtain ⟨i3, i4, i5, -⟩ := i2
            have hc1 := (e3 c rfl).1
            rw [i4]
            refine z_bipush (v := nI 70) d_m_filesOf_37 39 rfl rfl ?_
            refine z_icmp_neN (tgt := 6) d_m_filesOf_39 42 rfl rfl (by omega) (by omega) (fun h39 => ?_) (fun h39 => ?_)
            · rw [filesL, if_neg h39] at he
              exact ih e d g z (by omega) e2 hd (i1.trans hf) he
            · rw [filesL, if_pos h39] at he
              refine z_aload_n d_m_filesOf_42 43 rfl rfl rfl ?_
              refine z_iload_n d_m_filesOf_43 44 rfl rfl rfl ?_
              refine z_aload_n d_m_filesOf_44 45 rfl rfl rfl ?_
              refine zm_getF 14 d_m_filesOf_45 48 rfl f_m_58 rfl ?_; try simp only [pk_us, pk_un, ne_eq, Nat.reduceEqDiff, not_false_eq_true]
              rw [i5]
              obtain ⟨j1, j2⟩ := fnd_lk (oI c.2.2.2.1) As (32 * r)
              refine zm_cV1 d_m_filesOf_48 51 rfl mv_m_find kl_m_98 (by decide) (fun Q' h => c_m_find r _ hr2 hR h) rfl rfl (Nat.le_of_ble_eq_true rfl) ?_
              refine z_ist5 d_m_filesOf_51 53 rfl rfl ?_
              refine z_iload d_m_filesOf_53 55 rfl rfl ?_
              cases hq : fnd (oI c.2.2.2.1) As (32 * r) with
              | none =>
                rw [j1 hq] at he
                refine z_if_ge (tgt := 60) d_m_filesOf_55 58 rfl rfl (fun h55 => ?_) (fun h55 => ?_)
                · exact absurd h55 (by decide)
                · refine z_iconst (v := oI none) d_m_filesOf_58 59 rfl (by decide) ?_
                  exact z_iret d_m_filesOf_59 rfl (Nat.le_refl 0) (Nat.le_refl 0) (by have := hQ g (i1.trans hf); rw [he] at this; exact this)
              | some q =>
                obtain ⟨b1, b2, b3, -⟩ := j2 q hq
                rw [b3] at he
                have hA := hR.1
                obtain ⟨hsl, -⟩ := hR.2.2 (q - 32 * r) b2
                rw [show 32 * r + (q - 32 * r) = q by omega] at hsl
                refine z_if_ge (tgt := 60) d_m_filesOf_55 58 rfl rfl (fun h55 => ?_) (fun h55 => ?_)
                · rw [show oI (some q) = nI q from rfl]
                  refine z_aload_n d_m_filesOf_60 61 rfl rfl rfl ?_
                  refine z_iload_n d_m_filesOf_61 62 rfl rfl rfl ?_
                  refine z_iload d_m_filesOf_62 64 rfl rfl ?_
                  refine z_aload_n d_m_filesOf_64 65 rfl rfl rfl ?_
                  refine zm_getA 1 d_m_filesOf_65 68 rfl f_m_13 rfl ?_
                  refine z_iload d_m_filesOf_68 70 rfl rfl ?_
                  refine zm_iald d_m_filesOf_70 71 rfl (by decide) rfl (by simp only [zln]; omega) ?_
                  rw [hsl.2.1]
                  refine zm_cV1 d_m_filesOf_71 74 rfl mv_m_digest kl_m_94 (by decide) (fun Q' h => c_m_digest d q _ hsl.1 (Nat.le_refl _) (by omega) hsl.2.2 hd h) rfl rfl (Nat.le_of_ble_eq_true rfl) ?_
                  rw [List.take_length]
                  refine z_ist3 d_m_filesOf_74 75 rfl rfl ?_
                  refine z_goto (tgt := 6) d_m_filesOf_75 rfl ?_
                  exact ih e (dg d (As.getD (q - 32 * r) [])) g _ (by omega) e2 (dg_lt hd _) (i1.trans hf) he
                · exact absurd (nI_pos' (by omega)) h55
  refine z_bipush (v := nI 7) d_m_filesOf_0 2 rfl rfl ?_
  refine z_ist3 d_m_filesOf_2 3 rfl rfl ?_
  refine z_iconst (v := nI 0) d_m_filesOf_3 4 rfl rfl ?_
  refine z_ist4 d_m_filesOf_4 6 rfl rfl ?_
  exact loop bs.length 0 7 vf none (by omega) (Nat.zero_le _) (by decide) rfl rfl
end M7
end
section
/-! The reference: the sort of a text. Own work. -/
def cnt (c : Nat) (cs : List CV) : Nat := (cs.filter fun x => decide (x.1 = c)).length
def stars (cs : List CV) : Nat := (cs.filter fun x => decide (x.1 = 84) && x.2.2.2.1.isNone).length
theorem cnt_snoc (n : Nat) (cs : List CV) (c : CV) : cnt n (cs ++ [c]) = cnt n cs + (if c.1 = n then 1 else 0) := by
  simp only [cnt, List.filter_append, List.length_append]
  congr 1
  by_cases h : c.1 = n <;> simp [List.filter, h]
theorem stars_snoc (cs : List CV) (c : CV) : stars (cs ++ [c]) = stars cs + (if c.1 = 84 ∧ c.2.2.2.1 = none then 1 else 0) := by
  simp only [stars, List.filter_append, List.length_append]
  congr 1
  by_cases h : c.1 = 84 <;> cases h2 : c.2.2.2.1 <;> simp [List.filter, h, h2]
theorem cnt_le (n : Nat) (cs : List CV) : cnt n cs ≤ cs.length := List.length_filter_le _ _
theorem stars_le (cs : List CV) : stars cs ≤ cs.length := List.length_filter_le _ _
def keyC (c : CV) : Nat := if c.1 = 70 ∨ c.1 = 84 then c.2.1 else if c.1 = 77 then c.2.2.2.1.getD 0 else 0
def grw (c : CV) : Bool := decide (c.1 = 70) || decide (c.1 = 84) || decide (c.1 = 77)
def lastL (cs : List CV) : Nat := match cs.getLast? with
  | none => 0
  | some a => a.1
def lastK (cs : List CV) : Int32 := match cs.getLast? with
  | none => -1
  | some a => nI (keyC a)
def okC (cs : List CV) (c : CV) : Bool := match cs.getLast? with
  | none => true
  | some a => decide (a.1 < c.1) || (decide (a.1 = c.1) && (grw c && decide (keyC a < keyC c)))
def okZ (bs : List Nat) (k : Nat) (c : CV) : Bool := !decide (c.1 = 90) || decide (c.2.2.2.1 = some (dg 7 (bs.take k)))
def wfF (bs : List Nat) : Nat → Nat → List CV → Option (List CV)
  | 0, _, cs => some cs
  | f + 1, k, cs => if k < bs.length then (match rdl bs k with
    | some (e, some c) => if okC cs c && okZ bs k c then wfF bs f e (cs ++ [c]) else none
    | _ => none) else some cs
def wf (bs : List Nat) : Option (List CV) := wfF bs bs.length 0 []
def sortC (cs : List CV) : Nat :=
  if cnt 90 cs = 0 then 0
  else if cnt 68 cs = 1 ∧ cnt 82 cs = 1 ∧ cnt 77 cs = 0 ∧ stars cs = cnt 84 cs then 1
  else if cnt 68 cs = 1 ∧ cnt 84 cs ≠ 0 ∧ stars cs = 0 ∧ cnt 70 cs + cnt 77 cs + cnt 80 cs + cnt 82 cs = 0 then 2
  else if cnt 77 cs ≠ 0 ∧ cnt 68 cs + cnt 70 cs + cnt 80 cs + cnt 82 cs + cnt 84 cs = 0 then 3 else 0
def sortM (bs : List Nat) : Nat := match wf bs with
  | none => 0
  | some cs => sortC cs
theorem keyC_lt {c : CV} (h : cvOk c) : keyC c < 16777216 := by
  unfold keyC
  split
  · have := h.2.2.2.1; omega
  · split
    · cases hx : c.2.2.2.1 with
      | none => simp
      | some v => exact h.2.1 v hx
    · decide
section M8
variable {l : Launch} {D : zD} {hp : zH} {o : Nat} {va : Nat → Nat → Int32} {vf : Nat → Int32} {Q : Option Value → zH → Prop}
set_option maxHeartbeats 1000000 in
theorem c_m_sort (s : Nat) {bs : List Nat} (hr : slotP va s bs) (hs : s < 66)
    (hQ : ∀ f : Nat → Int32, f 9 = vf 9 → Q (some (.int (nI (sortM bs)))) (zmod D o hp va f)) : Runs l D M_m_sort [.ref o, .int (nI s)] (zmod D o hp va vf) 0 0 Q := by
  refine Runs.of rfl rfl (Nat.le_of_ble_eq_true rfl) ?_
  obtain ⟨hr1, hlen, hl⟩ := hr
  have fin : ∀ (cs : List CV) (k : Nat) (f : Nat → Int32) (z1 z2 : Option Value), cs.length ≤ 240 → f 9 = vf 9 → wf bs = some cs → Z l D M_m_sort 0 0 Q (zmod D o hp va f) 0 0 371 [some (.ref o), some (.int (nI s)), some (.int (nI (lastL cs))), some (.int (lastK cs)), some (.int (nI (cnt 68 cs))), some (.int (nI (cnt 70 cs))), some (.int (nI (cnt 77 cs))), some (.int (nI (cnt 80 cs))), some (.int (nI (cnt 82 cs))), some (.int (nI (stars cs))), some (.int (nI (cnt 84 cs))), some (.int (nI (cnt 90 cs))), some (.int (nI k)), z1, z2] [] := by
    intro cs k f z1 z2 hcl hf hw
    have c68 := cnt_le 68 cs
    have c70 := cnt_le 70 cs
    have c77 := cnt_le 77 cs
    have c80 := cnt_le 80 cs
    have c82 := cnt_le 82 cs
    have c84 := cnt_le 84 cs
    have c90 := cnt_le 90 cs
    have cst := stars_le cs
    have q := hQ f hf
    simp only [sortM, hw] at q
    refine z_iload d_m_sort_371 373 rfl rfl ?_
    refine z_if_neN (tgt := 378) d_m_sort_373 376 rfl rfl (by omega) (fun h373 => ?_) (fun h373 => ?_)
    · refine z_iload d_m_sort_378 380 rfl rfl ?_
      refine z_iconst (v := nI 1) d_m_sort_380 381 rfl rfl ?_
      refine z_icmp_neN (tgt := 404) d_m_sort_381 384 rfl rfl (by omega) (by omega) (fun h381 => ?_) (fun h381 => ?_)
      · refine z_iload d_m_sort_404 406 rfl rfl ?_
        refine z_iconst (v := nI 1) d_m_sort_406 407 rfl rfl ?_
        refine z_icmp_neN (tgt := 436) d_m_sort_407 410 rfl rfl (by omega) (by omega) (fun h407 => ?_) (fun h407 => ?_)
        · refine z_iload d_m_sort_436 438 rfl rfl ?_
          refine z_if_leN (tgt := 462) d_m_sort_438 441 rfl rfl (by omega) (fun h438 => ?_) (fun h438 => ?_)
          · refine z_iconst (v := nI 0) d_m_sort_462 463 rfl rfl ?_
            exact z_iret d_m_sort_463 rfl (Nat.le_refl 0) (Nat.le_refl 0) (by first | (exfalso; omega) | (rw [show sortC cs = 0 by (simp only [sortC]; (repeat' split) <;> omega)] at q; exact q))
          · refine z_iload d_m_sort_441 443 rfl rfl ?_
            refine z_iload d_m_sort_443 445 rfl rfl ?_
            first | refine z_iaddN d_m_sort_445 446 rfl ?_ | refine z_iadd d_m_sort_445 446 rfl ?_
            refine z_iload d_m_sort_446 448 rfl rfl ?_
            first | refine z_iaddN d_m_sort_448 449 rfl ?_ | refine z_iadd d_m_sort_448 449 rfl ?_
            refine z_iload d_m_sort_449 451 rfl rfl ?_
            first | refine z_iaddN d_m_sort_451 452 rfl ?_ | refine z_iadd d_m_sort_451 452 rfl ?_
            refine z_iload d_m_sort_452 454 rfl rfl ?_
            first | refine z_iaddN d_m_sort_454 455 rfl ?_ | refine z_iadd d_m_sort_454 455 rfl ?_
            refine z_if_neN (tgt := 462) d_m_sort_455 458 rfl rfl (by omega) (fun h455 => ?_) (fun h455 => ?_)
            · refine z_iconst (v := nI 0) d_m_sort_462 463 rfl rfl ?_
              exact z_iret d_m_sort_463 rfl (Nat.le_refl 0) (Nat.le_refl 0) (by first | (exfalso; omega) | (rw [show sortC cs = 0 by (simp only [sortC]; (repeat' split) <;> omega)] at q; exact q))
            · refine z_iconst (v := nI 3) d_m_sort_458 459 rfl rfl ?_
              refine z_goto (tgt := 463) d_m_sort_459 rfl ?_
              exact z_iret d_m_sort_463 rfl (Nat.le_refl 0) (Nat.le_refl 0) (by first | (exfalso; omega) | (rw [show sortC cs = 3 by (simp only [sortC]; (repeat' split) <;> omega)] at q; exact q))
        · refine z_iload d_m_sort_410 412 rfl rfl ?_
          refine z_if_leN (tgt := 436) d_m_sort_412 415 rfl rfl (by omega) (fun h412 => ?_) (fun h412 => ?_)
          · refine z_iload d_m_sort_436 438 rfl rfl ?_
            refine z_if_leN (tgt := 462) d_m_sort_438 441 rfl rfl (by omega) (fun h438 => ?_) (fun h438 => ?_)
            · refine z_iconst (v := nI 0) d_m_sort_462 463 rfl rfl ?_
              exact z_iret d_m_sort_463 rfl (Nat.le_refl 0) (Nat.le_refl 0) (by first | (exfalso; omega) | (rw [show sortC cs = 0 by (simp only [sortC]; (repeat' split) <;> omega)] at q; exact q))
            · refine z_iload d_m_sort_441 443 rfl rfl ?_
              refine z_iload d_m_sort_443 445 rfl rfl ?_
              first | refine z_iaddN d_m_sort_445 446 rfl ?_ | refine z_iadd d_m_sort_445 446 rfl ?_
              refine z_iload d_m_sort_446 448 rfl rfl ?_
              first | refine z_iaddN d_m_sort_448 449 rfl ?_ | refine z_iadd d_m_sort_448 449 rfl ?_
              refine z_iload d_m_sort_449 451 rfl rfl ?_
              first | refine z_iaddN d_m_sort_451 452 rfl ?_ | refine z_iadd d_m_sort_451 452 rfl ?_
              refine z_iload d_m_sort_452 454 rfl rfl ?_
              first | refine z_iaddN d_m_sort_454 455 rfl ?_ | refine z_iadd d_m_sort_454 455 rfl ?_
              refine z_if_neN (tgt := 462) d_m_sort_455 458 rfl rfl (by omega) (fun h455 => ?_) (fun h455 => ?_)
              · refine z_iconst (v := nI 0) d_m_sort_462 463 rfl rfl ?_
                exact z_iret d_m_sort_463 rfl (Nat.le_refl 0) (Nat.le_refl 0) (by first | (exfalso; omega) | (rw [show sortC cs = 0 by (simp only [sortC]; (repeat' split) <;> omega)] at q; exact q))
              · refine z_iconst (v := nI 3) d_m_sort_458 459 rfl rfl ?_
                refine z_goto (tgt := 463) d_m_sort_459 rfl ?_
                exact z_iret d_m_sort_463 rfl (Nat.le_refl 0) (Nat.le_refl 0) (by first | (exfalso; omega) | (rw [show sortC cs = 3 by (simp only [sortC]; (repeat' split) <;> omega)] at q; exact q))
          · refine z_iload d_m_sort_415 417 rfl rfl ?_
            refine z_if_neN (tgt := 436) d_m_sort_417 420 rfl rfl (by omega) (fun h417 => ?_) (fun h417 => ?_)
            · refine z_iload d_m_sort_436 438 rfl rfl ?_
              refine z_if_leN (tgt := 462) d_m_sort_438 441 rfl rfl (by omega) (fun h438 => ?_) (fun h438 => ?_)
              · refine z_iconst (v := nI 0) d_m_sort_462 463 rfl rfl ?_
                exact z_iret d_m_sort_463 rfl (Nat.le_refl 0) (Nat.le_refl 0) (by first | (exfalso; omega) | (rw [show sortC cs = 0 by (simp only [sortC]; (repeat' split) <;> omega)] at q; exact q))
              · refine z_iload d_m_sort_441 443 rfl rfl ?_
                refine z_iload d_m_sort_443 445 rfl rfl ?_
                first | refine z_iaddN d_m_sort_445 446 rfl ?_ | refine z_iadd d_m_sort_445 446 rfl ?_
                refine z_iload d_m_sort_446 448 rfl rfl ?_
                first | refine z_iaddN d_m_sort_448 449 rfl ?_ | refine z_iadd d_m_sort_448 449 rfl ?_
                refine z_iload d_m_sort_449 451 rfl rfl ?_
                first | refine z_iaddN d_m_sort_451 452 rfl ?_ | refine z_iadd d_m_sort_451 452 rfl ?_
                refine z_iload d_m_sort_452 454 rfl rfl ?_
                first | refine z_iaddN d_m_sort_454 455 rfl ?_ | refine z_iadd d_m_sort_454 455 rfl ?_
                refine z_if_neN (tgt := 462) d_m_sort_455 458 rfl rfl (by omega) (fun h455 => ?_) (fun h455 => ?_)
                · refine z_iconst (v := nI 0) d_m_sort_462 463 rfl rfl ?_
                  exact z_iret d_m_sort_463 rfl (Nat.le_refl 0) (Nat.le_refl 0) (by first | (exfalso; omega) | (rw [show sortC cs = 0 by (simp only [sortC]; (repeat' split) <;> omega)] at q; exact q))
                · refine z_iconst (v := nI 3) d_m_sort_458 459 rfl rfl ?_
                  refine z_goto (tgt := 463) d_m_sort_459 rfl ?_
                  exact z_iret d_m_sort_463 rfl (Nat.le_refl 0) (Nat.le_refl 0) (by first | (exfalso; omega) | (rw [show sortC cs = 3 by (simp only [sortC]; (repeat' split) <;> omega)] at q; exact q))
            · refine z_iload d_m_sort_420 422 rfl rfl ?_
              refine z_iload d_m_sort_422 424 rfl rfl ?_
              first | refine z_iaddN d_m_sort_424 425 rfl ?_ | refine z_iadd d_m_sort_424 425 rfl ?_
              refine z_iload d_m_sort_425 427 rfl rfl ?_
              first | refine z_iaddN d_m_sort_427 428 rfl ?_ | refine z_iadd d_m_sort_427 428 rfl ?_
              refine z_iload d_m_sort_428 430 rfl rfl ?_
              first | refine z_iaddN d_m_sort_430 431 rfl ?_ | refine z_iadd d_m_sort_430 431 rfl ?_
              refine z_if_neN (tgt := 436) d_m_sort_431 434 rfl rfl (by omega) (fun h431 => ?_) (fun h431 => ?_)
              · refine z_iload d_m_sort_436 438 rfl rfl ?_
                refine z_if_leN (tgt := 462) d_m_sort_438 441 rfl rfl (by omega) (fun h438 => ?_) (fun h438 => ?_)
                · refine z_iconst (v := nI 0) d_m_sort_462 463 rfl rfl ?_
                  exact z_iret d_m_sort_463 rfl (Nat.le_refl 0) (Nat.le_refl 0) (by first | (exfalso; omega) | (rw [show sortC cs = 0 by (simp only [sortC]; (repeat' split) <;> omega)] at q; exact q))
                · refine z_iload d_m_sort_441 443 rfl rfl ?_
                  refine z_iload d_m_sort_443 445 rfl rfl ?_
                  first | refine z_iaddN d_m_sort_445 446 rfl ?_ | refine z_iadd d_m_sort_445 446 rfl ?_
                  refine z_iload d_m_sort_446 448 rfl rfl ?_
                  first | refine z_iaddN d_m_sort_448 449 rfl ?_ | refine z_iadd d_m_sort_448 449 rfl ?_
                  refine z_iload d_m_sort_449 451 rfl rfl ?_
                  first | refine z_iaddN d_m_sort_451 452 rfl ?_ | refine z_iadd d_m_sort_451 452 rfl ?_
                  refine z_iload d_m_sort_452 454 rfl rfl ?_
                  first | refine z_iaddN d_m_sort_454 455 rfl ?_ | refine z_iadd d_m_sort_454 455 rfl ?_
                  refine z_if_neN (tgt := 462) d_m_sort_455 458 rfl rfl (by omega) (fun h455 => ?_) (fun h455 => ?_)
                  · refine z_iconst (v := nI 0) d_m_sort_462 463 rfl rfl ?_
                    exact z_iret d_m_sort_463 rfl (Nat.le_refl 0) (Nat.le_refl 0) (by first | (exfalso; omega) | (rw [show sortC cs = 0 by (simp only [sortC]; (repeat' split) <;> omega)] at q; exact q))
                  · refine z_iconst (v := nI 3) d_m_sort_458 459 rfl rfl ?_
                    refine z_goto (tgt := 463) d_m_sort_459 rfl ?_
                    exact z_iret d_m_sort_463 rfl (Nat.le_refl 0) (Nat.le_refl 0) (by first | (exfalso; omega) | (rw [show sortC cs = 3 by (simp only [sortC]; (repeat' split) <;> omega)] at q; exact q))
              · refine z_iconst (v := nI 2) d_m_sort_434 435 rfl rfl ?_
                exact z_iret d_m_sort_435 rfl (Nat.le_refl 0) (Nat.le_refl 0) (by first | (exfalso; omega) | (rw [show sortC cs = 2 by (simp only [sortC]; (repeat' split) <;> omega)] at q; exact q))
      · refine z_iload d_m_sort_384 386 rfl rfl ?_
        refine z_iconst (v := nI 1) d_m_sort_386 387 rfl rfl ?_
        refine z_icmp_neN (tgt := 404) d_m_sort_387 390 rfl rfl (by omega) (by omega) (fun h387 => ?_) (fun h387 => ?_)
        · refine z_iload d_m_sort_404 406 rfl rfl ?_
          refine z_iconst (v := nI 1) d_m_sort_406 407 rfl rfl ?_
          refine z_icmp_neN (tgt := 436) d_m_sort_407 410 rfl rfl (by omega) (by omega) (fun h407 => ?_) (fun h407 => ?_)
          · refine z_iload d_m_sort_436 438 rfl rfl ?_
            refine z_if_leN (tgt := 462) d_m_sort_438 441 rfl rfl (by omega) (fun h438 => ?_) (fun h438 => ?_)
            · refine z_iconst (v := nI 0) d_m_sort_462 463 rfl rfl ?_
              exact z_iret d_m_sort_463 rfl (Nat.le_refl 0) (Nat.le_refl 0) (by first | (exfalso; omega) | (rw [show sortC cs = 0 by (simp only [sortC]; (repeat' split) <;> omega)] at q; exact q))
            · refine z_iload d_m_sort_441 443 rfl rfl ?_
              refine z_iload d_m_sort_443 445 rfl rfl ?_
              first | refine z_iaddN d_m_sort_445 446 rfl ?_ | refine z_iadd d_m_sort_445 446 rfl ?_
              refine z_iload d_m_sort_446 448 rfl rfl ?_
              first | refine z_iaddN d_m_sort_448 449 rfl ?_ | refine z_iadd d_m_sort_448 449 rfl ?_
              refine z_iload d_m_sort_449 451 rfl rfl ?_
              first | refine z_iaddN d_m_sort_451 452 rfl ?_ | refine z_iadd d_m_sort_451 452 rfl ?_
              refine z_iload d_m_sort_452 454 rfl rfl ?_
              first | refine z_iaddN d_m_sort_454 455 rfl ?_ | refine z_iadd d_m_sort_454 455 rfl ?_
              refine z_if_neN (tgt := 462) d_m_sort_455 458 rfl rfl (by omega) (fun h455 => ?_) (fun h455 => ?_)
              · refine z_iconst (v := nI 0) d_m_sort_462 463 rfl rfl ?_
                exact z_iret d_m_sort_463 rfl (Nat.le_refl 0) (Nat.le_refl 0) (by first | (exfalso; omega) | (rw [show sortC cs = 0 by (simp only [sortC]; (repeat' split) <;> omega)] at q; exact q))
              · refine z_iconst (v := nI 3) d_m_sort_458 459 rfl rfl ?_
                refine z_goto (tgt := 463) d_m_sort_459 rfl ?_
                exact z_iret d_m_sort_463 rfl (Nat.le_refl 0) (Nat.le_refl 0) (by first | (exfalso; omega) | (rw [show sortC cs = 3 by (simp only [sortC]; (repeat' split) <;> omega)] at q; exact q))
          · refine z_iload d_m_sort_410 412 rfl rfl ?_
            refine z_if_leN (tgt := 436) d_m_sort_412 415 rfl rfl (by omega) (fun h412 => ?_) (fun h412 => ?_)
            · refine z_iload d_m_sort_436 438 rfl rfl ?_
              refine z_if_leN (tgt := 462) d_m_sort_438 441 rfl rfl (by omega) (fun h438 => ?_) (fun h438 => ?_)
              · refine z_iconst (v := nI 0) d_m_sort_462 463 rfl rfl ?_
                exact z_iret d_m_sort_463 rfl (Nat.le_refl 0) (Nat.le_refl 0) (by first | (exfalso; omega) | (rw [show sortC cs = 0 by (simp only [sortC]; (repeat' split) <;> omega)] at q; exact q))
              · refine z_iload d_m_sort_441 443 rfl rfl ?_
                refine z_iload d_m_sort_443 445 rfl rfl ?_
                first | refine z_iaddN d_m_sort_445 446 rfl ?_ | refine z_iadd d_m_sort_445 446 rfl ?_
                refine z_iload d_m_sort_446 448 rfl rfl ?_
                first | refine z_iaddN d_m_sort_448 449 rfl ?_ | refine z_iadd d_m_sort_448 449 rfl ?_
                refine z_iload d_m_sort_449 451 rfl rfl ?_
                first | refine z_iaddN d_m_sort_451 452 rfl ?_ | refine z_iadd d_m_sort_451 452 rfl ?_
                refine z_iload d_m_sort_452 454 rfl rfl ?_
                first | refine z_iaddN d_m_sort_454 455 rfl ?_ | refine z_iadd d_m_sort_454 455 rfl ?_
                refine z_if_neN (tgt := 462) d_m_sort_455 458 rfl rfl (by omega) (fun h455 => ?_) (fun h455 => ?_)
                · refine z_iconst (v := nI 0) d_m_sort_462 463 rfl rfl ?_
                  exact z_iret d_m_sort_463 rfl (Nat.le_refl 0) (Nat.le_refl 0) (by first | (exfalso; omega) | (rw [show sortC cs = 0 by (simp only [sortC]; (repeat' split) <;> omega)] at q; exact q))
                · refine z_iconst (v := nI 3) d_m_sort_458 459 rfl rfl ?_
                  refine z_goto (tgt := 463) d_m_sort_459 rfl ?_
                  exact z_iret d_m_sort_463 rfl (Nat.le_refl 0) (Nat.le_refl 0) (by first | (exfalso; omega) | (rw [show sortC cs = 3 by (simp only [sortC]; (repeat' split) <;> omega)] at q; exact q))
            · refine z_iload d_m_sort_415 417 rfl rfl ?_
              refine z_if_neN (tgt := 436) d_m_sort_417 420 rfl rfl (by omega) (fun h417 => ?_) (fun h417 => ?_)
              · refine z_iload d_m_sort_436 438 rfl rfl ?_
                refine z_if_leN (tgt := 462) d_m_sort_438 441 rfl rfl (by omega) (fun h438 => ?_) (fun h438 => ?_)
                · refine z_iconst (v := nI 0) d_m_sort_462 463 rfl rfl ?_
                  exact z_iret d_m_sort_463 rfl (Nat.le_refl 0) (Nat.le_refl 0) (by first | (exfalso; omega) | (rw [show sortC cs = 0 by (simp only [sortC]; (repeat' split) <;> omega)] at q; exact q))
                · refine z_iload d_m_sort_441 443 rfl rfl ?_
                  refine z_iload d_m_sort_443 445 rfl rfl ?_
                  first | refine z_iaddN d_m_sort_445 446 rfl ?_ | refine z_iadd d_m_sort_445 446 rfl ?_
                  refine z_iload d_m_sort_446 448 rfl rfl ?_
                  first | refine z_iaddN d_m_sort_448 449 rfl ?_ | refine z_iadd d_m_sort_448 449 rfl ?_
                  refine z_iload d_m_sort_449 451 rfl rfl ?_
                  first | refine z_iaddN d_m_sort_451 452 rfl ?_ | refine z_iadd d_m_sort_451 452 rfl ?_
                  refine z_iload d_m_sort_452 454 rfl rfl ?_
                  first | refine z_iaddN d_m_sort_454 455 rfl ?_ | refine z_iadd d_m_sort_454 455 rfl ?_
                  refine z_if_neN (tgt := 462) d_m_sort_455 458 rfl rfl (by omega) (fun h455 => ?_) (fun h455 => ?_)
                  · refine z_iconst (v := nI 0) d_m_sort_462 463 rfl rfl ?_
                    exact z_iret d_m_sort_463 rfl (Nat.le_refl 0) (Nat.le_refl 0) (by first | (exfalso; omega) | (rw [show sortC cs = 0 by (simp only [sortC]; (repeat' split) <;> omega)] at q; exact q))
                  · refine z_iconst (v := nI 3) d_m_sort_458 459 rfl rfl ?_
                    refine z_goto (tgt := 463) d_m_sort_459 rfl ?_
                    exact z_iret d_m_sort_463 rfl (Nat.le_refl 0) (Nat.le_refl 0) (by first | (exfalso; omega) | (rw [show sortC cs = 3 by (simp only [sortC]; (repeat' split) <;> omega)] at q; exact q))
              · refine z_iload d_m_sort_420 422 rfl rfl ?_
                refine z_iload d_m_sort_422 424 rfl rfl ?_
                first | refine z_iaddN d_m_sort_424 425 rfl ?_ | refine z_iadd d_m_sort_424 425 rfl ?_
                refine z_iload d_m_sort_425 427 rfl rfl ?_
                first | refine z_iaddN d_m_sort_427 428 rfl ?_ | refine z_iadd d_m_sort_427 428 rfl ?_
                refine z_iload d_m_sort_428 430 rfl rfl ?_
                first | refine z_iaddN d_m_sort_430 431 rfl ?_ | refine z_iadd d_m_sort_430 431 rfl ?_
                refine z_if_neN (tgt := 436) d_m_sort_431 434 rfl rfl (by omega) (fun h431 => ?_) (fun h431 => ?_)
                · refine z_iload d_m_sort_436 438 rfl rfl ?_
                  refine z_if_leN (tgt := 462) d_m_sort_438 441 rfl rfl (by omega) (fun h438 => ?_) (fun h438 => ?_)
                  · refine z_iconst (v := nI 0) d_m_sort_462 463 rfl rfl ?_
                    exact z_iret d_m_sort_463 rfl (Nat.le_refl 0) (Nat.le_refl 0) (by first | (exfalso; omega) | (rw [show sortC cs = 0 by (simp only [sortC]; (repeat' split) <;> omega)] at q; exact q))
                  · refine z_iload d_m_sort_441 443 rfl rfl ?_
                    refine z_iload d_m_sort_443 445 rfl rfl ?_
                    first | refine z_iaddN d_m_sort_445 446 rfl ?_ | refine z_iadd d_m_sort_445 446 rfl ?_
                    refine z_iload d_m_sort_446 448 rfl rfl ?_
                    first | refine z_iaddN d_m_sort_448 449 rfl ?_ | refine z_iadd d_m_sort_448 449 rfl ?_
                    refine z_iload d_m_sort_449 451 rfl rfl ?_
                    first | refine z_iaddN d_m_sort_451 452 rfl ?_ | refine z_iadd d_m_sort_451 452 rfl ?_
                    refine z_iload d_m_sort_452 454 rfl rfl ?_
                    first | refine z_iaddN d_m_sort_454 455 rfl ?_ | refine z_iadd d_m_sort_454 455 rfl ?_
                    refine z_if_neN (tgt := 462) d_m_sort_455 458 rfl rfl (by omega) (fun h455 => ?_) (fun h455 => ?_)
                    · refine z_iconst (v := nI 0) d_m_sort_462 463 rfl rfl ?_
                      exact z_iret d_m_sort_463 rfl (Nat.le_refl 0) (Nat.le_refl 0) (by first | (exfalso; omega) | (rw [show sortC cs = 0 by (simp only [sortC]; (repeat' split) <;> omega)] at q; exact q))
                    · refine z_iconst (v := nI 3) d_m_sort_458 459 rfl rfl ?_
                      refine z_goto (tgt := 463) d_m_sort_459 rfl ?_
                      exact z_iret d_m_sort_463 rfl (Nat.le_refl 0) (Nat.le_refl 0) (by first | (exfalso; omega) | (rw [show sortC cs = 3 by (simp only [sortC]; (repeat' split) <;> omega)] at q; exact q))
                · refine z_iconst (v := nI 2) d_m_sort_434 435 rfl rfl ?_
                  exact z_iret d_m_sort_435 rfl (Nat.le_refl 0) (Nat.le_refl 0) (by first | (exfalso; omega) | (rw [show sortC cs = 2 by (simp only [sortC]; (repeat' split) <;> omega)] at q; exact q))
        · refine z_iload d_m_sort_390 392 rfl rfl ?_
          refine z_if_neN (tgt := 404) d_m_sort_392 395 rfl rfl (by omega) (fun h392 => ?_) (fun h392 => ?_)
          · refine z_iload d_m_sort_404 406 rfl rfl ?_
            refine z_iconst (v := nI 1) d_m_sort_406 407 rfl rfl ?_
            refine z_icmp_neN (tgt := 436) d_m_sort_407 410 rfl rfl (by omega) (by omega) (fun h407 => ?_) (fun h407 => ?_)
            · refine z_iload d_m_sort_436 438 rfl rfl ?_
              refine z_if_leN (tgt := 462) d_m_sort_438 441 rfl rfl (by omega) (fun h438 => ?_) (fun h438 => ?_)
              · refine z_iconst (v := nI 0) d_m_sort_462 463 rfl rfl ?_
                exact z_iret d_m_sort_463 rfl (Nat.le_refl 0) (Nat.le_refl 0) (by first | (exfalso; omega) | (rw [show sortC cs = 0 by (simp only [sortC]; (repeat' split) <;> omega)] at q; exact q))
              · refine z_iload d_m_sort_441 443 rfl rfl ?_
                refine z_iload d_m_sort_443 445 rfl rfl ?_
                first | refine z_iaddN d_m_sort_445 446 rfl ?_ | refine z_iadd d_m_sort_445 446 rfl ?_
                refine z_iload d_m_sort_446 448 rfl rfl ?_
                first | refine z_iaddN d_m_sort_448 449 rfl ?_ | refine z_iadd d_m_sort_448 449 rfl ?_
                refine z_iload d_m_sort_449 451 rfl rfl ?_
                first | refine z_iaddN d_m_sort_451 452 rfl ?_ | refine z_iadd d_m_sort_451 452 rfl ?_
                refine z_iload d_m_sort_452 454 rfl rfl ?_
                first | refine z_iaddN d_m_sort_454 455 rfl ?_ | refine z_iadd d_m_sort_454 455 rfl ?_
                refine z_if_neN (tgt := 462) d_m_sort_455 458 rfl rfl (by omega) (fun h455 => ?_) (fun h455 => ?_)
                · refine z_iconst (v := nI 0) d_m_sort_462 463 rfl rfl ?_
                  exact z_iret d_m_sort_463 rfl (Nat.le_refl 0) (Nat.le_refl 0) (by first | (exfalso; omega) | (rw [show sortC cs = 0 by (simp only [sortC]; (repeat' split) <;> omega)] at q; exact q))
                · refine z_iconst (v := nI 3) d_m_sort_458 459 rfl rfl ?_
                  refine z_goto (tgt := 463) d_m_sort_459 rfl ?_
                  exact z_iret d_m_sort_463 rfl (Nat.le_refl 0) (Nat.le_refl 0) (by first | (exfalso; omega) | (rw [show sortC cs = 3 by (simp only [sortC]; (repeat' split) <;> omega)] at q; exact q))
            · refine z_iload d_m_sort_410 412 rfl rfl ?_
              refine z_if_leN (tgt := 436) d_m_sort_412 415 rfl rfl (by omega) (fun h412 => ?_) (fun h412 => ?_)
              · refine z_iload d_m_sort_436 438 rfl rfl ?_
                refine z_if_leN (tgt := 462) d_m_sort_438 441 rfl rfl (by omega) (fun h438 => ?_) (fun h438 => ?_)
                · refine z_iconst (v := nI 0) d_m_sort_462 463 rfl rfl ?_
                  exact z_iret d_m_sort_463 rfl (Nat.le_refl 0) (Nat.le_refl 0) (by first | (exfalso; omega) | (rw [show sortC cs = 0 by (simp only [sortC]; (repeat' split) <;> omega)] at q; exact q))
                · refine z_iload d_m_sort_441 443 rfl rfl ?_
                  refine z_iload d_m_sort_443 445 rfl rfl ?_
                  first | refine z_iaddN d_m_sort_445 446 rfl ?_ | refine z_iadd d_m_sort_445 446 rfl ?_
                  refine z_iload d_m_sort_446 448 rfl rfl ?_
                  first | refine z_iaddN d_m_sort_448 449 rfl ?_ | refine z_iadd d_m_sort_448 449 rfl ?_
                  refine z_iload d_m_sort_449 451 rfl rfl ?_
                  first | refine z_iaddN d_m_sort_451 452 rfl ?_ | refine z_iadd d_m_sort_451 452 rfl ?_
                  refine z_iload d_m_sort_452 454 rfl rfl ?_
                  first | refine z_iaddN d_m_sort_454 455 rfl ?_ | refine z_iadd d_m_sort_454 455 rfl ?_
                  refine z_if_neN (tgt := 462) d_m_sort_455 458 rfl rfl (by omega) (fun h455 => ?_) (fun h455 => ?_)
                  · refine z_iconst (v := nI 0) d_m_sort_462 463 rfl rfl ?_
                    exact z_iret d_m_sort_463 rfl (Nat.le_refl 0) (Nat.le_refl 0) (by first | (exfalso; omega) | (rw [show sortC cs = 0 by (simp only [sortC]; (repeat' split) <;> omega)] at q; exact q))
                  · refine z_iconst (v := nI 3) d_m_sort_458 459 rfl rfl ?_
                    refine z_goto (tgt := 463) d_m_sort_459 rfl ?_
                    exact z_iret d_m_sort_463 rfl (Nat.le_refl 0) (Nat.le_refl 0) (by first | (exfalso; omega) | (rw [show sortC cs = 3 by (simp only [sortC]; (repeat' split) <;> omega)] at q; exact q))
              · refine z_iload d_m_sort_415 417 rfl rfl ?_
                refine z_if_neN (tgt := 436) d_m_sort_417 420 rfl rfl (by omega) (fun h417 => ?_) (fun h417 => ?_)
                · refine z_iload d_m_sort_436 438 rfl rfl ?_
                  refine z_if_leN (tgt := 462) d_m_sort_438 441 rfl rfl (by omega) (fun h438 => ?_) (fun h438 => ?_)
                  · refine z_iconst (v := nI 0) d_m_sort_462 463 rfl rfl ?_
                    exact z_iret d_m_sort_463 rfl (Nat.le_refl 0) (Nat.le_refl 0) (by first | (exfalso; omega) | (rw [show sortC cs = 0 by (simp only [sortC]; (repeat' split) <;> omega)] at q; exact q))
                  · refine z_iload d_m_sort_441 443 rfl rfl ?_
                    refine z_iload d_m_sort_443 445 rfl rfl ?_
                    first | refine z_iaddN d_m_sort_445 446 rfl ?_ | refine z_iadd d_m_sort_445 446 rfl ?_
                    refine z_iload d_m_sort_446 448 rfl rfl ?_
                    first | refine z_iaddN d_m_sort_448 449 rfl ?_ | refine z_iadd d_m_sort_448 449 rfl ?_
                    refine z_iload d_m_sort_449 451 rfl rfl ?_
                    first | refine z_iaddN d_m_sort_451 452 rfl ?_ | refine z_iadd d_m_sort_451 452 rfl ?_
                    refine z_iload d_m_sort_452 454 rfl rfl ?_
                    first | refine z_iaddN d_m_sort_454 455 rfl ?_ | refine z_iadd d_m_sort_454 455 rfl ?_
                    refine z_if_neN (tgt := 462) d_m_sort_455 458 rfl rfl (by omega) (fun h455 => ?_) (fun h455 => ?_)
                    · refine z_iconst (v := nI 0) d_m_sort_462 463 rfl rfl ?_
                      exact z_iret d_m_sort_463 rfl (Nat.le_refl 0) (Nat.le_refl 0) (by first | (exfalso; omega) | (rw [show sortC cs = 0 by (simp only [sortC]; (repeat' split) <;> omega)] at q; exact q))
                    · refine z_iconst (v := nI 3) d_m_sort_458 459 rfl rfl ?_
                      refine z_goto (tgt := 463) d_m_sort_459 rfl ?_
                      exact z_iret d_m_sort_463 rfl (Nat.le_refl 0) (Nat.le_refl 0) (by first | (exfalso; omega) | (rw [show sortC cs = 3 by (simp only [sortC]; (repeat' split) <;> omega)] at q; exact q))
                · refine z_iload d_m_sort_420 422 rfl rfl ?_
                  refine z_iload d_m_sort_422 424 rfl rfl ?_
                  first | refine z_iaddN d_m_sort_424 425 rfl ?_ | refine z_iadd d_m_sort_424 425 rfl ?_
                  refine z_iload d_m_sort_425 427 rfl rfl ?_
                  first | refine z_iaddN d_m_sort_427 428 rfl ?_ | refine z_iadd d_m_sort_427 428 rfl ?_
                  refine z_iload d_m_sort_428 430 rfl rfl ?_
                  first | refine z_iaddN d_m_sort_430 431 rfl ?_ | refine z_iadd d_m_sort_430 431 rfl ?_
                  refine z_if_neN (tgt := 436) d_m_sort_431 434 rfl rfl (by omega) (fun h431 => ?_) (fun h431 => ?_)
                  · refine z_iload d_m_sort_436 438 rfl rfl ?_
                    refine z_if_leN (tgt := 462) d_m_sort_438 441 rfl rfl (by omega) (fun h438 => ?_) (fun h438 => ?_)
                    · refine z_iconst (v := nI 0) d_m_sort_462 463 rfl rfl ?_
                      exact z_iret d_m_sort_463 rfl (Nat.le_refl 0) (Nat.le_refl 0) (by first | (exfalso; omega) | (rw [show sortC cs = 0 by (simp only [sortC]; (repeat' split) <;> omega)] at q; exact q))
                    · refine z_iload d_m_sort_441 443 rfl rfl ?_
                      refine z_iload d_m_sort_443 445 rfl rfl ?_
                      first | refine z_iaddN d_m_sort_445 446 rfl ?_ | refine z_iadd d_m_sort_445 446 rfl ?_
                      refine z_iload d_m_sort_446 448 rfl rfl ?_
                      first | refine z_iaddN d_m_sort_448 449 rfl ?_ | refine z_iadd d_m_sort_448 449 rfl ?_
                      refine z_iload d_m_sort_449 451 rfl rfl ?_
                      first | refine z_iaddN d_m_sort_451 452 rfl ?_ | refine z_iadd d_m_sort_451 452 rfl ?_
                      refine z_iload d_m_sort_452 454 rfl rfl ?_
                      first | refine z_iaddN d_m_sort_454 455 rfl ?_ | refine z_iadd d_m_sort_454 455 rfl ?_
                      refine z_if_neN (tgt := 462) d_m_sort_455 458 rfl rfl (by omega) (fun h455 => ?_) (fun h455 => ?_)
                      · refine z_iconst (v := nI 0) d_m_sort_462 463 rfl rfl ?_
                        exact z_iret d_m_sort_463 rfl (Nat.le_refl 0) (Nat.le_refl 0) (by first | (exfalso; omega) | (rw [show sortC cs = 0 by (simp only [sortC]; (repeat' split) <;> omega)] at q; exact q))
                      · refine z_iconst (v := nI 3) d_m_sort_458 459 rfl rfl ?_
                        refine z_goto (tgt := 463) d_m_sort_459 rfl ?_
                        exact z_iret d_m_sort_463 rfl (Nat.le_refl 0) (Nat.le_refl 0) (by first | (exfalso; omega) | (rw [show sortC cs = 3 by (simp only [sortC]; (repeat' split) <;> omega)] at q; exact q))
                  · refine z_iconst (v := nI 2) d_m_sort_434 435 rfl rfl ?_
                    exact z_iret d_m_sort_435 rfl (Nat.le_refl 0) (Nat.le_refl 0) (by first | (exfalso; omega) | (rw [show sortC cs = 2 by (simp only [sortC]; (repeat' split) <;> omega)] at q; exact q))
          · refine z_iload d_m_sort_395 397 rfl rfl ?_
            refine z_iload d_m_sort_397 399 rfl rfl ?_
            refine z_icmp_neN (tgt := 404) d_m_sort_399 402 rfl rfl (by omega) (by omega) (fun h399 => ?_) (fun h399 => ?_)
            · refine z_iload d_m_sort_404 406 rfl rfl ?_
              refine z_iconst (v := nI 1) d_m_sort_406 407 rfl rfl ?_
              refine z_icmp_neN (tgt := 436) d_m_sort_407 410 rfl rfl (by omega) (by omega) (fun h407 => ?_) (fun h407 => ?_)
              · refine z_iload d_m_sort_436 438 rfl rfl ?_
                refine z_if_leN (tgt := 462) d_m_sort_438 441 rfl rfl (by omega) (fun h438 => ?_) (fun h438 => ?_)
                · refine z_iconst (v := nI 0) d_m_sort_462 463 rfl rfl ?_
                  exact z_iret d_m_sort_463 rfl (Nat.le_refl 0) (Nat.le_refl 0) (by first | (exfalso; omega) | (rw [show sortC cs = 0 by (simp only [sortC]; (repeat' split) <;> omega)] at q; exact q))
                · refine z_iload d_m_sort_441 443 rfl rfl ?_
                  refine z_iload d_m_sort_443 445 rfl rfl ?_
                  first | refine z_iaddN d_m_sort_445 446 rfl ?_ | refine z_iadd d_m_sort_445 446 rfl ?_
                  refine z_iload d_m_sort_446 448 rfl rfl ?_
                  first | refine z_iaddN d_m_sort_448 449 rfl ?_ | refine z_iadd d_m_sort_448 449 rfl ?_
                  refine z_iload d_m_sort_449 451 rfl rfl ?_
                  first | refine z_iaddN d_m_sort_451 452 rfl ?_ | refine z_iadd d_m_sort_451 452 rfl ?_
                  refine z_iload d_m_sort_452 454 rfl rfl ?_
                  first | refine z_iaddN d_m_sort_454 455 rfl ?_ | refine z_iadd d_m_sort_454 455 rfl ?_
                  refine z_if_neN (tgt := 462) d_m_sort_455 458 rfl rfl (by omega) (fun h455 => ?_) (fun h455 => ?_)
                  · refine z_iconst (v := nI 0) d_m_sort_462 463 rfl rfl ?_
                    exact z_iret d_m_sort_463 rfl (Nat.le_refl 0) (Nat.le_refl 0) (by first | (exfalso; omega) | (rw [show sortC cs = 0 by (simp only [sortC]; (repeat' split) <;> omega)] at q; exact q))
                  · refine z_iconst (v := nI 3) d_m_sort_458 459 rfl rfl ?_
                    refine z_goto (tgt := 463) d_m_sort_459 rfl ?_
                    exact z_iret d_m_sort_463 rfl (Nat.le_refl 0) (Nat.le_refl 0) (by first | (exfalso; omega) | (rw [show sortC cs = 3 by (simp only [sortC]; (repeat' split) <;> omega)] at q; exact q))
              · refine z_iload d_m_sort_410 412 rfl rfl ?_
                refine z_if_leN (tgt := 436) d_m_sort_412 415 rfl rfl (by omega) (fun h412 => ?_) (fun h412 => ?_)
                · refine z_iload d_m_sort_436 438 rfl rfl ?_
                  refine z_if_leN (tgt := 462) d_m_sort_438 441 rfl rfl (by omega) (fun h438 => ?_) (fun h438 => ?_)
                  · refine z_iconst (v := nI 0) d_m_sort_462 463 rfl rfl ?_
                    exact z_iret d_m_sort_463 rfl (Nat.le_refl 0) (Nat.le_refl 0) (by first | (exfalso; omega) | (rw [show sortC cs = 0 by (simp only [sortC]; (repeat' split) <;> omega)] at q; exact q))
                  · refine z_iload d_m_sort_441 443 rfl rfl ?_
                    refine z_iload d_m_sort_443 445 rfl rfl ?_
                    first | refine z_iaddN d_m_sort_445 446 rfl ?_ | refine z_iadd d_m_sort_445 446 rfl ?_
                    refine z_iload d_m_sort_446 448 rfl rfl ?_
                    first | refine z_iaddN d_m_sort_448 449 rfl ?_ | refine z_iadd d_m_sort_448 449 rfl ?_
                    refine z_iload d_m_sort_449 451 rfl rfl ?_
                    first | refine z_iaddN d_m_sort_451 452 rfl ?_ | refine z_iadd d_m_sort_451 452 rfl ?_
                    refine z_iload d_m_sort_452 454 rfl rfl ?_
                    first | refine z_iaddN d_m_sort_454 455 rfl ?_ | refine z_iadd d_m_sort_454 455 rfl ?_
                    refine z_if_neN (tgt := 462) d_m_sort_455 458 rfl rfl (by omega) (fun h455 => ?_) (fun h455 => ?_)
                    · refine z_iconst (v := nI 0) d_m_sort_462 463 rfl rfl ?_
                      exact z_iret d_m_sort_463 rfl (Nat.le_refl 0) (Nat.le_refl 0) (by first | (exfalso; omega) | (rw [show sortC cs = 0 by (simp only [sortC]; (repeat' split) <;> omega)] at q; exact q))
                    · refine z_iconst (v := nI 3) d_m_sort_458 459 rfl rfl ?_
                      refine z_goto (tgt := 463) d_m_sort_459 rfl ?_
                      exact z_iret d_m_sort_463 rfl (Nat.le_refl 0) (Nat.le_refl 0) (by first | (exfalso; omega) | (rw [show sortC cs = 3 by (simp only [sortC]; (repeat' split) <;> omega)] at q; exact q))
                · refine z_iload d_m_sort_415 417 rfl rfl ?_
                  refine z_if_neN (tgt := 436) d_m_sort_417 420 rfl rfl (by omega) (fun h417 => ?_) (fun h417 => ?_)
                  · refine z_iload d_m_sort_436 438 rfl rfl ?_
                    refine z_if_leN (tgt := 462) d_m_sort_438 441 rfl rfl (by omega) (fun h438 => ?_) (fun h438 => ?_)
                    · refine z_iconst (v := nI 0) d_m_sort_462 463 rfl rfl ?_
                      exact z_iret d_m_sort_463 rfl (Nat.le_refl 0) (Nat.le_refl 0) (by first | (exfalso; omega) | (rw [show sortC cs = 0 by (simp only [sortC]; (repeat' split) <;> omega)] at q; exact q))
                    · refine z_iload d_m_sort_441 443 rfl rfl ?_
                      refine z_iload d_m_sort_443 445 rfl rfl ?_
                      first | refine z_iaddN d_m_sort_445 446 rfl ?_ | refine z_iadd d_m_sort_445 446 rfl ?_
                      refine z_iload d_m_sort_446 448 rfl rfl ?_
                      first | refine z_iaddN d_m_sort_448 449 rfl ?_ | refine z_iadd d_m_sort_448 449 rfl ?_
                      refine z_iload d_m_sort_449 451 rfl rfl ?_
                      first | refine z_iaddN d_m_sort_451 452 rfl ?_ | refine z_iadd d_m_sort_451 452 rfl ?_
                      refine z_iload d_m_sort_452 454 rfl rfl ?_
                      first | refine z_iaddN d_m_sort_454 455 rfl ?_ | refine z_iadd d_m_sort_454 455 rfl ?_
                      refine z_if_neN (tgt := 462) d_m_sort_455 458 rfl rfl (by omega) (fun h455 => ?_) (fun h455 => ?_)
                      · refine z_iconst (v := nI 0) d_m_sort_462 463 rfl rfl ?_
                        exact z_iret d_m_sort_463 rfl (Nat.le_refl 0) (Nat.le_refl 0) (by first | (exfalso; omega) | (rw [show sortC cs = 0 by (simp only [sortC]; (repeat' split) <;> omega)] at q; exact q))
                      · refine z_iconst (v := nI 3) d_m_sort_458 459 rfl rfl ?_
                        refine z_goto (tgt := 463) d_m_sort_459 rfl ?_
                        exact z_iret d_m_sort_463 rfl (Nat.le_refl 0) (Nat.le_refl 0) (by first | (exfalso; omega) | (rw [show sortC cs = 3 by (simp only [sortC]; (repeat' split) <;> omega)] at q; exact q))
                  · refine z_iload d_m_sort_420 422 rfl rfl ?_
                    refine z_iload d_m_sort_422 424 rfl rfl ?_
                    first | refine z_iaddN d_m_sort_424 425 rfl ?_ | refine z_iadd d_m_sort_424 425 rfl ?_
                    refine z_iload d_m_sort_425 427 rfl rfl ?_
                    first | refine z_iaddN d_m_sort_427 428 rfl ?_ | refine z_iadd d_m_sort_427 428 rfl ?_
                    refine z_iload d_m_sort_428 430 rfl rfl ?_
                    first | refine z_iaddN d_m_sort_430 431 rfl ?_ | refine z_iadd d_m_sort_430 431 rfl ?_
                    refine z_if_neN (tgt := 436) d_m_sort_431 434 rfl rfl (by omega) (fun h431 => ?_) (fun h431 => ?_)
                    · refine z_iload d_m_sort_436 438 rfl rfl ?_
                      refine z_if_leN (tgt := 462) d_m_sort_438 441 rfl rfl (by omega) (fun h438 => ?_) (fun h438 => ?_)
                      · refine z_iconst (v := nI 0) d_m_sort_462 463 rfl rfl ?_
                        exact z_iret d_m_sort_463 rfl (Nat.le_refl 0) (Nat.le_refl 0) (by first | (exfalso; omega) | (rw [show sortC cs = 0 by (simp only [sortC]; (repeat' split) <;> omega)] at q; exact q))
                      · refine z_iload d_m_sort_441 443 rfl rfl ?_
                        refine z_iload d_m_sort_443 445 rfl rfl ?_
                        first | refine z_iaddN d_m_sort_445 446 rfl ?_ | refine z_iadd d_m_sort_445 446 rfl ?_
                        refine z_iload d_m_sort_446 448 rfl rfl ?_
                        first | refine z_iaddN d_m_sort_448 449 rfl ?_ | refine z_iadd d_m_sort_448 449 rfl ?_
                        refine z_iload d_m_sort_449 451 rfl rfl ?_
                        first | refine z_iaddN d_m_sort_451 452 rfl ?_ | refine z_iadd d_m_sort_451 452 rfl ?_
                        refine z_iload d_m_sort_452 454 rfl rfl ?_
                        first | refine z_iaddN d_m_sort_454 455 rfl ?_ | refine z_iadd d_m_sort_454 455 rfl ?_
                        refine z_if_neN (tgt := 462) d_m_sort_455 458 rfl rfl (by omega) (fun h455 => ?_) (fun h455 => ?_)
                        · refine z_iconst (v := nI 0) d_m_sort_462 463 rfl rfl ?_
                          exact z_iret d_m_sort_463 rfl (Nat.le_refl 0) (Nat.le_refl 0) (by first | (exfalso; omega) | (rw [show sortC cs = 0 by (simp only [sortC]; (repeat' split) <;> omega)] at q; exact q))
                        · refine z_iconst (v := nI 3) d_m_sort_458 459 rfl rfl ?_
                          refine z_goto (tgt := 463) d_m_sort_459 rfl ?_
                          exact z_iret d_m_sort_463 rfl (Nat.le_refl 0) (Nat.le_refl 0) (by first | (exfalso; omega) | (rw [show sortC cs = 3 by (simp only [sortC]; (repeat' split) <;> omega)] at q; exact q))
                    · refine z_iconst (v := nI 2) d_m_sort_434 435 rfl rfl ?_
                      exact z_iret d_m_sort_435 rfl (Nat.le_refl 0) (Nat.le_refl 0) (by first | (exfalso; omega) | (rw [show sortC cs = 2 by (simp only [sortC]; (repeat' split) <;> omega)] at q; exact q))
            · refine z_iconst (v := nI 1) d_m_sort_402 403 rfl rfl ?_
              exact z_iret d_m_sort_403 rfl (Nat.le_refl 0) (Nat.le_refl 0) (by first | (exfalso; omega) | (rw [show sortC cs = 1 by (simp only [sortC]; (repeat' split) <;> omega)] at q; exact q))
    · refine z_iconst (v := nI 0) d_m_sort_376 377 rfl rfl ?_
      exact z_iret d_m_sort_377 rfl (Nat.le_refl 0) (Nat.le_refl 0) (by first | (exfalso; omega) | (rw [show sortC cs = 0 by (simp only [sortC]; (repeat' split) <;> omega)] at q; exact q))
  have bad : ∀ f : Nat → Int32, f 9 = vf 9 → wf bs = none → Q (some (.int (nI 0))) (zmod D o hp va f) := by
    intro f hf hw
    have q := hQ f hf
    simp only [sortM, hw] at q
    exact q
  have loop : ∀ (g k : Nat) (cs : List CV) (f : Nat → Int32) (z1 z2 : Option Value), bs.length ≤ k + g → k ≤ bs.length → cs.length ≤ k → (∀ a, cs.getLast? = some a → cvOk a) → f 9 = vf 9 → wf bs = wfF bs g k cs → Z l D M_m_sort 0 0 Q (zmod D o hp va f) 0 0 31 [some (.ref o), some (.int (nI s)), some (.int (nI (lastL cs))), some (.int (lastK cs)), some (.int (nI (cnt 68 cs))), some (.int (nI (cnt 70 cs))), some (.int (nI (cnt 77 cs))), some (.int (nI (cnt 80 cs))), some (.int (nI (cnt 82 cs))), some (.int (nI (stars cs))), some (.int (nI (cnt 84 cs))), some (.int (nI (cnt 90 cs))), some (.int (nI k)), z1, z2] [] := by
    intro g
    induction g with
    | zero =>
      intro k cs f z1 z2 hg hk hcl hlast hf hw
      refine z_iload d_m_sort_31 33 rfl rfl ?_
      refine z_aload_n d_m_sort_33 34 rfl rfl rfl ?_
      refine zm_getA 1 d_m_sort_34 37 rfl f_m_13 rfl ?_
      refine z_iload_n d_m_sort_37 38 rfl rfl rfl ?_
      refine zm_iald d_m_sort_38 39 rfl (by decide) rfl (by simp only [zln]; omega) ?_
      rw [hlen]
      refine z_icmp_geN (tgt := 371) d_m_sort_39 42 rfl rfl (by omega) (by omega) (fun h39 => ?_) (fun h39 => ?_)
      · exact fin cs k f z1 z2 (by omega) hf (by rw [hw]; rfl)
      · omega
    | succ g ih =>
      intro k cs f z1 z2 hg hk hcl hlast hf hw
      refine z_iload d_m_sort_31 33 rfl rfl ?_
      refine z_aload_n d_m_sort_33 34 rfl rfl rfl ?_
      refine zm_getA 1 d_m_sort_34 37 rfl f_m_13 rfl ?_
      refine z_iload_n d_m_sort_37 38 rfl rfl rfl ?_
      refine zm_iald d_m_sort_38 39 rfl (by decide) rfl (by simp only [zln]; omega) ?_
      rw [hlen]
      refine z_icmp_geN (tgt := 371) d_m_sort_39 42 rfl rfl (by omega) (by omega) (fun h39 => ?_) (fun h39 => ?_)
      · exact fin cs k f z1 z2 (by omega) hf (by rw [hw, wfF, if_neg (by omega)])
      · rw [wfF, if_pos (by omega)] at hw
        refine z_aload_n d_m_sort_42 43 rfl rfl rfl ?_
        refine z_iload_n d_m_sort_43 44 rfl rfl rfl ?_
        refine z_iload d_m_sort_44 46 rfl rfl ?_
        refine zm_cV (fun v a f' => v = .int (zb (rdl bs k).isSome) ∧ va = a ∧ f' 9 = f 9 ∧ rdP (rdl bs k) f') d_m_sort_46 49 rfl mv_m_readLine kl_m_90 (by decide) (fun Q' h => c_m_readLine s k hr1 hlen hk hs hl (fun f h1 h2 => h _ _ _ ⟨rfl, rfl, h1, h2⟩)) rfl rfl (Nat.le_of_ble_eq_true rfl) ?_; rintro _ _ f1 ⟨rfl, rfl, i1, i2⟩
        have f19 : f1 9 = vf 9 := i1.trans hf
        have lastlt : lastL cs < 256 := by
          unfold lastL
          cases h : cs.getLast? with
          | none => simp
          | some a => have := (hlast a h).1; simp only; omega
        refine z_if_eqB (tgt := 67) d_m_sort_49 52 rfl rfl (fun h49 => ?_) (fun h49 => ?_)
        · have hn : rdl bs k = none := by simpa using h49
          rw [hn] at hw
          refine z_iconst (v := nI 0) d_m_sort_67 68 rfl rfl ?_
          exact z_iret d_m_sort_68 rfl (Nat.le_refl 0) (Nat.le_refl 0) (bad f1 f19 hw)
        · obtain ⟨⟨e, cd⟩, hrd⟩ := Option.isSome_iff_exists.mp h49
          obtain ⟨e1, e2, e3⟩ := rdl_some hk hrd
          rw [hrd] at i2
          rw [hrd] at hw
          cases cd with
          | none =>
            refine z_aload_n d_m_sort_52 53 rfl rfl rfl ?_
            refine zm_getF 11 d_m_sort_53 56 rfl f_m_47 rfl ?_; try simp only [pk_us, pk_un, ne_eq, Nat.reduceEqDiff, not_false_eq_true]
            rw [i2.2]
            refine z_iload_n d_m_sort_56 57 rfl rfl rfl ?_
            refine z_icmp_ltN (tgt := 67) d_m_sort_57 60 rfl rfl (by omega) (by omega) (fun h57 => ?_) (fun h57 => ?_)
            · refine z_iconst (v := nI 0) d_m_sort_67 68 rfl rfl ?_
              exact z_iret d_m_sort_68 rfl (Nat.le_refl 0) (Nat.le_refl 0) (bad f1 f19 hw)
            · refine z_aload_n d_m_sort_60 61 rfl rfl rfl ?_
              refine zm_getF 11 d_m_sort_61 64 rfl f_m_47 rfl ?_; try simp only [pk_us, pk_un, ne_eq, Nat.reduceEqDiff, not_false_eq_true]
              rw [i2.2]
              refine z_if_neN (tgt := 69) d_m_sort_64 67 rfl rfl (by omega) (fun h64 => ?_) (fun h64 => ?_)
              · exact absurd rfl h64
              · refine z_iconst (v := nI 0) d_m_sort_67 68 rfl rfl ?_
                exact z_iret d_m_sort_68 rfl (Nat.le_refl 0) (Nat.le_refl 0) (bad f1 f19 hw)
          | some c =>
            obtain ⟨i3, i4, i5, i6, i7, i8, i9⟩ := i2
            have hok := e3 c rfl
            obtain ⟨hlet, hx, hy, hdig, hnum, hx68, hxs, hyn⟩ := hok
            have hkey := keyC_lt (e3 c rfl)
            have hw : wf bs = if okC cs c && okZ bs k c then wfF bs g e (cs ++ [c]) else none := hw
            -- from the counts on
            have j195 : okC cs c = true → okZ bs k c = true → Z l D M_m_sort 0 0 Q (zmod D o hp va f1) 0 0 195 [some (.ref o), some (.int (nI s)), some (.int (nI (lastL cs))), some (.int (lastK cs)), some (.int (nI (cnt 68 cs))), some (.int (nI (cnt 70 cs))), some (.int (nI (cnt 77 cs))), some (.int (nI (cnt 80 cs))), some (.int (nI (cnt 82 cs))), some (.int (nI (stars cs))), some (.int (nI (cnt 84 cs))), some (.int (nI (cnt 90 cs))), some (.int (nI k)), some (.int (nI (keyC c))), some (.int (zb (grw c)))] [] := by
              intro ho hz
              rw [ho, hz, Bool.and_self, if_pos rfl] at hw
              have c68 := cnt_le 68 cs
              have c70 := cnt_le 70 cs
              have c77 := cnt_le 77 cs
              have c80 := cnt_le 80 cs
              have c82 := cnt_le 82 cs
              have c84 := cnt_le 84 cs
              have c90 := cnt_le 90 cs
              have cst := stars_le cs
              have r1 := ih e (cs ++ [c]) f1 (some (.int (nI (keyC c)))) (some (.int (zb (grw c)))) (by omega) e2 (by simp; omega) (fun a ha => by simp at ha; subst ha; exact e3 _ rfl) f19 hw
              rw [show lastL (cs ++ [c]) = c.1 by simp [lastL], show lastK (cs ++ [c]) = nI (keyC c) by simp [lastK], cnt_snoc, cnt_snoc, cnt_snoc, cnt_snoc, cnt_snoc, cnt_snoc, cnt_snoc, stars_snoc] at r1
              refine z_aload_n d_m_sort_195 196 rfl rfl rfl ?_
              refine zm_getF 11 d_m_sort_196 199 rfl f_m_47 rfl ?_; try simp only [pk_us, pk_un, ne_eq, Nat.reduceEqDiff, not_false_eq_true]
              rw [i4]
              refine z_ist2 d_m_sort_199 200 rfl rfl ?_
              refine z_iload d_m_sort_200 202 rfl rfl ?_
              refine z_ist3 d_m_sort_202 203 rfl rfl ?_
              refine z_iload d_m_sort_203 205 rfl rfl ?_
              refine z_aload_n d_m_sort_205 206 rfl rfl rfl ?_
              refine zm_getF 11 d_m_sort_206 209 rfl f_m_47 rfl ?_; try simp only [pk_us, pk_un, ne_eq, Nat.reduceEqDiff, not_false_eq_true]
              rw [i4]
              refine z_bipush (v := nI 68) d_m_sort_209 211 rfl rfl ?_
              refine z_dia_ne (tgt := 218) d_m_sort_211 d_m_sort_214 d_m_sort_215 d_m_sort_218 219 rfl rfl rfl rfl rfl (by omega) (by omega) ?_
              first | refine z_iaddN d_m_sort_219 220 rfl ?_ | refine z_iadd d_m_sort_219 220 rfl ?_
              refine z_ist4 d_m_sort_220 222 rfl rfl ?_
              refine z_iload d_m_sort_222 224 rfl rfl ?_
              refine z_aload_n d_m_sort_224 225 rfl rfl rfl ?_
              refine zm_getF 11 d_m_sort_225 228 rfl f_m_47 rfl ?_; try simp only [pk_us, pk_un, ne_eq, Nat.reduceEqDiff, not_false_eq_true]
              rw [i4]
              refine z_bipush (v := nI 70) d_m_sort_228 230 rfl rfl ?_
              refine z_dia_ne (tgt := 237) d_m_sort_230 d_m_sort_233 d_m_sort_234 d_m_sort_237 238 rfl rfl rfl rfl rfl (by omega) (by omega) ?_
              first | refine z_iaddN d_m_sort_238 239 rfl ?_ | refine z_iadd d_m_sort_238 239 rfl ?_
              refine z_ist5 d_m_sort_239 241 rfl rfl ?_
              refine z_iload d_m_sort_241 243 rfl rfl ?_
              refine z_aload_n d_m_sort_243 244 rfl rfl rfl ?_
              refine zm_getF 11 d_m_sort_244 247 rfl f_m_47 rfl ?_; try simp only [pk_us, pk_un, ne_eq, Nat.reduceEqDiff, not_false_eq_true]
              rw [i4]
              refine z_bipush (v := nI 77) d_m_sort_247 249 rfl rfl ?_
              refine z_dia_ne (tgt := 256) d_m_sort_249 d_m_sort_252 d_m_sort_253 d_m_sort_256 257 rfl rfl rfl rfl rfl (by omega) (by omega) ?_
              first | refine z_iaddN d_m_sort_257 258 rfl ?_ | refine z_iadd d_m_sort_257 258 rfl ?_
              refine z_ist6 d_m_sort_258 260 rfl rfl ?_
              refine z_iload d_m_sort_260 262 rfl rfl ?_
              refine z_aload_n d_m_sort_262 263 rfl rfl rfl ?_
              refine zm_getF 11 d_m_sort_263 266 rfl f_m_47 rfl ?_; try simp only [pk_us, pk_un, ne_eq, Nat.reduceEqDiff, not_false_eq_true]
              rw [i4]
              refine z_bipush (v := nI 80) d_m_sort_266 268 rfl rfl ?_
              refine z_dia_ne (tgt := 275) d_m_sort_268 d_m_sort_271 d_m_sort_272 d_m_sort_275 276 rfl rfl rfl rfl rfl (by omega) (by omega) ?_
              first | refine z_iaddN d_m_sort_276 277 rfl ?_ | refine z_iadd d_m_sort_276 277 rfl ?_
              refine z_ist7 d_m_sort_277 279 rfl rfl ?_
              refine z_iload d_m_sort_279 281 rfl rfl ?_
              refine z_aload_n d_m_sort_281 282 rfl rfl rfl ?_
              refine zm_getF 11 d_m_sort_282 285 rfl f_m_47 rfl ?_; try simp only [pk_us, pk_un, ne_eq, Nat.reduceEqDiff, not_false_eq_true]
              rw [i4]
              refine z_bipush (v := nI 82) d_m_sort_285 287 rfl rfl ?_
              refine z_dia_ne (tgt := 294) d_m_sort_287 d_m_sort_290 d_m_sort_291 d_m_sort_294 295 rfl rfl rfl rfl rfl (by omega) (by omega) ?_
              first | refine z_iaddN d_m_sort_295 296 rfl ?_ | refine z_iadd d_m_sort_295 296 rfl ?_
              refine z_ist8 d_m_sort_296 298 rfl rfl ?_
              refine z_iload d_m_sort_298 300 rfl rfl ?_
              refine z_aload_n d_m_sort_300 301 rfl rfl rfl ?_
              refine zm_getF 11 d_m_sort_301 304 rfl f_m_47 rfl ?_; try simp only [pk_us, pk_un, ne_eq, Nat.reduceEqDiff, not_false_eq_true]
              rw [i4]
              refine z_bipush (v := nI 84) d_m_sort_304 306 rfl rfl ?_
              refine z_dia_ne (tgt := 313) d_m_sort_306 d_m_sort_309 d_m_sort_310 d_m_sort_313 314 rfl rfl rfl rfl rfl (by omega) (by omega) ?_
              first | refine z_iaddN d_m_sort_314 315 rfl ?_ | refine z_iadd d_m_sort_314 315 rfl ?_
              refine z_ist10 d_m_sort_315 317 rfl rfl ?_
              refine z_iload d_m_sort_317 319 rfl rfl ?_
              refine z_aload_n d_m_sort_319 320 rfl rfl rfl ?_
              refine zm_getF 11 d_m_sort_320 323 rfl f_m_47 rfl ?_; try simp only [pk_us, pk_un, ne_eq, Nat.reduceEqDiff, not_false_eq_true]
              rw [i4]
              refine z_bipush (v := nI 84) d_m_sort_323 325 rfl rfl ?_
              have j340 : ∀ v, v = (if c.1 = 84 ∧ c.2.2.2.1 = none then 1 else 0) → Z l D M_m_sort 0 0 Q (zmod D o hp va f1) 0 0 340 [some (.ref o), some (.int (nI s)), some (.int (nI c.1)), some (.int (nI (keyC c))), some (.int (nI (cnt 68 cs + if c.1 = 68 then 1 else 0))), some (.int (nI (cnt 70 cs + if c.1 = 70 then 1 else 0))), some (.int (nI (cnt 77 cs + if c.1 = 77 then 1 else 0))), some (.int (nI (cnt 80 cs + if c.1 = 80 then 1 else 0))), some (.int (nI (cnt 82 cs + if c.1 = 82 then 1 else 0))), some (.int (nI (stars cs))), some (.int (nI (cnt 84 cs + if c.1 = 84 then 1 else 0))), some (.int (nI (cnt 90 cs))), some (.int (nI k)), some (.int (nI (keyC c))), some (.int (zb (grw c)))] [.int (nI v), .int (nI (stars cs))] := by
                intro v hv
                subst hv
                first | refine z_iaddN d_m_sort_340 341 rfl ?_ | refine z_iadd d_m_sort_340 341 rfl ?_
                refine z_ist9 d_m_sort_341 343 rfl rfl ?_
                refine z_iload d_m_sort_343 345 rfl rfl ?_
                refine z_aload_n d_m_sort_345 346 rfl rfl rfl ?_
                refine zm_getF 11 d_m_sort_346 349 rfl f_m_47 rfl ?_; try simp only [pk_us, pk_un, ne_eq, Nat.reduceEqDiff, not_false_eq_true]
                rw [i4]
                refine z_bipush (v := nI 90) d_m_sort_349 351 rfl rfl ?_
                refine z_dia_ne (tgt := 358) d_m_sort_351 d_m_sort_354 d_m_sort_355 d_m_sort_358 359 rfl rfl rfl rfl rfl (by omega) (by omega) ?_
                first | refine z_iaddN d_m_sort_359 360 rfl ?_ | refine z_iadd d_m_sort_359 360 rfl ?_
                refine z_ist11 d_m_sort_360 362 rfl rfl ?_
                refine z_aload_n d_m_sort_362 363 rfl rfl rfl ?_
                refine zm_getF 10 d_m_sort_363 366 rfl f_m_51 rfl ?_; try simp only [pk_us, pk_un, ne_eq, Nat.reduceEqDiff, not_false_eq_true]
                rw [i3]
                refine z_ist12 d_m_sort_366 368 rfl rfl ?_
                refine z_goto (tgt := 31) d_m_sort_368 rfl ?_
                exact r1
              refine z_icmp_neN (tgt := 339) d_m_sort_325 328 rfl rfl (by omega) (by omega) (fun h325 => ?_) (fun h325 => ?_)
              · refine z_iconst (v := nI 0) d_m_sort_339 340 rfl rfl ?_
                exact j340 0 (by rw [if_neg (fun q => h325 q.1)])
              · refine z_aload_n d_m_sort_328 329 rfl rfl rfl ?_
                refine zm_getF 14 d_m_sort_329 332 rfl f_m_58 rfl ?_; try simp only [pk_us, pk_un, ne_eq, Nat.reduceEqDiff, not_false_eq_true]
                rw [i5]
                refine z_if_geO (tgt := 339) d_m_sort_332 335 rfl rfl (fun v h => by have := hx v h; omega) (fun w332 h332 => ?_) (fun h332 => ?_)
                · refine z_iconst (v := nI 0) d_m_sort_339 340 rfl rfl ?_
                  exact j340 0 (by rw [if_neg (fun q => by rw [q.2] at h332; cases h332)])
                · refine z_iconst (v := nI 1) d_m_sort_335 336 rfl rfl ?_
                  refine z_goto (tgt := 340) d_m_sort_336 rfl ?_
                  exact j340 1 (by rw [if_pos ⟨h325, h332⟩])
            have j168 : okC cs c = true → Z l D M_m_sort 0 0 Q (zmod D o hp va f1) 0 0 168 [some (.ref o), some (.int (nI s)), some (.int (nI (lastL cs))), some (.int (lastK cs)), some (.int (nI (cnt 68 cs))), some (.int (nI (cnt 70 cs))), some (.int (nI (cnt 77 cs))), some (.int (nI (cnt 80 cs))), some (.int (nI (cnt 82 cs))), some (.int (nI (stars cs))), some (.int (nI (cnt 84 cs))), some (.int (nI (cnt 90 cs))), some (.int (nI k)), some (.int (nI (keyC c))), some (.int (zb (grw c)))] [] := by
              intro ho
              refine z_aload_n d_m_sort_168 169 rfl rfl rfl ?_
              refine zm_getF 11 d_m_sort_169 172 rfl f_m_47 rfl ?_; try simp only [pk_us, pk_un, ne_eq, Nat.reduceEqDiff, not_false_eq_true]
              rw [i4]
              refine z_bipush (v := nI 90) d_m_sort_172 174 rfl rfl ?_
              refine z_icmp_neN (tgt := 195) d_m_sort_174 177 rfl rfl (by omega) (by omega) (fun h174 => ?_) (fun h174 => ?_)
              · exact j195 ho (by simp [okZ, h174])
              · obtain ⟨v, hv⟩ := Option.isSome_iff_exists.mp (hxs (by omega) (by omega))
                have hv2 := hx v hv
                have hd7 := dg7 (bs.take k)
                refine z_aload_n d_m_sort_177 178 rfl rfl rfl ?_
                refine zm_getF 14 d_m_sort_178 181 rfl f_m_58 rfl ?_; try simp only [pk_us, pk_un, ne_eq, Nat.reduceEqDiff, not_false_eq_true]
                rw [i5, hv, show oI (some v) = nI v from rfl]
                refine z_aload_n d_m_sort_181 182 rfl rfl rfl ?_
                refine z_bipush (v := nI 7) d_m_sort_182 184 rfl rfl ?_
                refine z_iload_n d_m_sort_184 185 rfl rfl rfl ?_
                refine z_iload d_m_sort_185 187 rfl rfl ?_
                refine zm_cV1 d_m_sort_187 190 rfl mv_m_digest kl_m_94 (by decide) (fun Q' h => c_m_digest 7 s k hr1 (by omega) hs hl (by decide) h) rfl rfl (Nat.le_of_ble_eq_true rfl) ?_
                refine z_icmp_eqN (tgt := 195) d_m_sort_190 193 rfl rfl (by omega) (by omega) (fun h190 => ?_) (fun h190 => ?_)
                · exact j195 ho (by simp [okZ, h174, hv, h190])
                · have : okZ bs k c = false := by simp [okZ, h174, hv, h190]
                  rw [this, Bool.and_false] at hw
                  refine z_iconst (v := nI 0) d_m_sort_193 194 rfl rfl ?_
                  exact z_iret d_m_sort_194 rfl (Nat.le_refl 0) (Nat.le_refl 0) (bad f1 f19 hw)
            have j147 : ¬ c.1 < lastL cs → Z l D M_m_sort 0 0 Q (zmod D o hp va f1) 0 0 147 [some (.ref o), some (.int (nI s)), some (.int (nI (lastL cs))), some (.int (lastK cs)), some (.int (nI (cnt 68 cs))), some (.int (nI (cnt 70 cs))), some (.int (nI (cnt 77 cs))), some (.int (nI (cnt 80 cs))), some (.int (nI (cnt 82 cs))), some (.int (nI (stars cs))), some (.int (nI (cnt 84 cs))), some (.int (nI (cnt 90 cs))), some (.int (nI k)), some (.int (nI (keyC c))), some (.int (zb (grw c)))] [] := by
              intro hge
              refine z_aload_n d_m_sort_147 148 rfl rfl rfl ?_
              refine zm_getF 11 d_m_sort_148 151 rfl f_m_47 rfl ?_; try simp only [pk_us, pk_un, ne_eq, Nat.reduceEqDiff, not_false_eq_true]
              rw [i4]
              refine z_iload_n d_m_sort_151 152 rfl rfl rfl ?_
              refine z_icmp_neN (tgt := 168) d_m_sort_152 155 rfl rfl (by omega) (by omega) (fun h152 => ?_) (fun h152 => ?_)
              · refine j168 ?_
                cases hla : cs.getLast? with
                | none => simp [okC, hla]
                | some a =>
                  have : lastL cs = a.1 := by simp [lastL, hla]
                  simp [okC, hla]
                  omega
              · cases hla : cs.getLast? with
                | none =>
                  have : lastL cs = 0 := by simp [lastL, hla]
                  omega
                | some a =>
                  have hL1 : lastL cs = a.1 := by simp [lastL, hla]
                  have hK1 : lastK cs = nI (keyC a) := by simp [lastK, hla]
                  have hka := keyC_lt (hlast a hla)
                  refine z_iload d_m_sort_155 157 rfl rfl ?_
                  refine z_if_eqB (tgt := 166) d_m_sort_157 160 rfl rfl (fun h157 => ?_) (fun h157 => ?_)
                  · have : okC cs c = false := by simp [okC, hla, h157]; omega
                    rw [this, Bool.false_and] at hw
                    refine z_iconst (v := nI 0) d_m_sort_166 167 rfl rfl ?_
                    exact z_iret d_m_sort_167 rfl (Nat.le_refl 0) (Nat.le_refl 0) (bad f1 f19 hw)
                  · refine z_iload d_m_sort_160 162 rfl rfl ?_
                    refine z_iload_n d_m_sort_162 163 rfl rfl rfl ?_
                    rw [hK1]
                    refine z_icmp_gtN (tgt := 168) d_m_sort_163 166 rfl rfl (by omega) (by omega) (fun h163 => ?_) (fun h163 => ?_)
                    · rw [← hK1]
                      exact j168 (by simp [okC, hla, h157, h163]; omega)
                    · have : okC cs c = false := by simp [okC, hla]; omega
                      rw [this, Bool.false_and] at hw
                      refine z_iconst (v := nI 0) d_m_sort_166 167 rfl rfl ?_
                      exact z_iret d_m_sort_167 rfl (Nat.le_refl 0) (Nat.le_refl 0) (bad f1 f19 hw)
            have j111 : ¬ c.1 < lastL cs → Z l D M_m_sort 0 0 Q (zmod D o hp va f1) 0 0 111 [some (.ref o), some (.int (nI s)), some (.int (nI (lastL cs))), some (.int (lastK cs)), some (.int (nI (cnt 68 cs))), some (.int (nI (cnt 70 cs))), some (.int (nI (cnt 77 cs))), some (.int (nI (cnt 80 cs))), some (.int (nI (cnt 82 cs))), some (.int (nI (stars cs))), some (.int (nI (cnt 84 cs))), some (.int (nI (cnt 90 cs))), some (.int (nI k)), z1, z2] [.int (nI (keyC c))] := by
              intro hge
              have j145 : Z l D M_m_sort 0 0 Q (zmod D o hp va f1) 0 0 145 [some (.ref o), some (.int (nI s)), some (.int (nI (lastL cs))), some (.int (lastK cs)), some (.int (nI (cnt 68 cs))), some (.int (nI (cnt 70 cs))), some (.int (nI (cnt 77 cs))), some (.int (nI (cnt 80 cs))), some (.int (nI (cnt 82 cs))), some (.int (nI (stars cs))), some (.int (nI (cnt 84 cs))), some (.int (nI (cnt 90 cs))), some (.int (nI k)), some (.int (nI (keyC c))), z2] [.int (zb (grw c))] := by
                refine z_ist14 d_m_sort_145 147 rfl rfl ?_
                exact j147 hge
              refine z_ist13 d_m_sort_111 113 rfl rfl ?_
              refine z_aload_n d_m_sort_113 114 rfl rfl rfl ?_
              refine zm_getF 11 d_m_sort_114 117 rfl f_m_47 rfl ?_; try simp only [pk_us, pk_un, ne_eq, Nat.reduceEqDiff, not_false_eq_true]
              rw [i4]
              refine z_bipush (v := nI 70) d_m_sort_117 119 rfl rfl ?_
              refine z_icmp_eqN (tgt := 140) d_m_sort_119 122 rfl rfl (by omega) (by omega) (fun h119 => ?_) (fun h119 => ?_)
              · refine z_iconst (v := nI 1) d_m_sort_140 141 rfl rfl ?_
                refine z_goto (tgt := 145) d_m_sort_141 rfl ?_
                rw [show grw c = true by simp [grw, h119]] at j145
                exact j145
              · refine z_aload_n d_m_sort_122 123 rfl rfl rfl ?_
                refine zm_getF 11 d_m_sort_123 126 rfl f_m_47 rfl ?_; try simp only [pk_us, pk_un, ne_eq, Nat.reduceEqDiff, not_false_eq_true]
                rw [i4]
                refine z_bipush (v := nI 84) d_m_sort_126 128 rfl rfl ?_
                refine z_icmp_eqN (tgt := 140) d_m_sort_128 131 rfl rfl (by omega) (by omega) (fun h128 => ?_) (fun h128 => ?_)
                · refine z_iconst (v := nI 1) d_m_sort_140 141 rfl rfl ?_
                  refine z_goto (tgt := 145) d_m_sort_141 rfl ?_
                  rw [show grw c = true by simp [grw, h128]] at j145
                  exact j145
                · refine z_aload_n d_m_sort_131 132 rfl rfl rfl ?_
                  refine zm_getF 11 d_m_sort_132 135 rfl f_m_47 rfl ?_; try simp only [pk_us, pk_un, ne_eq, Nat.reduceEqDiff, not_false_eq_true]
                  rw [i4]
                  refine z_bipush (v := nI 77) d_m_sort_135 137 rfl rfl ?_
                  refine z_icmp_neN (tgt := 144) d_m_sort_137 140 rfl rfl (by omega) (by omega) (fun h137 => ?_) (fun h137 => ?_)
                  · refine z_iconst (v := nI 0) d_m_sort_144 145 rfl rfl ?_
                    rw [show grw c = false by simp [grw, h119, h128, h137]] at j145
                    exact j145
                  · refine z_iconst (v := nI 1) d_m_sort_140 141 rfl rfl ?_
                    refine z_goto (tgt := 145) d_m_sort_141 rfl ?_
                    rw [show grw c = true by simp [grw, h137]] at j145
                    exact j145
            refine z_aload_n d_m_sort_52 53 rfl rfl rfl ?_
            refine zm_getF 11 d_m_sort_53 56 rfl f_m_47 rfl ?_; try simp only [pk_us, pk_un, ne_eq, Nat.reduceEqDiff, not_false_eq_true]
            rw [i4]
            refine z_iload_n d_m_sort_56 57 rfl rfl rfl ?_
            refine z_icmp_ltN (tgt := 67) d_m_sort_57 60 rfl rfl (by omega) (by omega) (fun h57 => ?_) (fun h57 => ?_)
            · have : okC cs c = false := by
                cases hla : cs.getLast? with
                | none => simp [lastL, hla] at h57
                | some a =>
                  have : lastL cs = a.1 := by simp [lastL, hla]
                  simp [okC, hla]
                  omega
              rw [this, Bool.false_and] at hw
              refine z_iconst (v := nI 0) d_m_sort_67 68 rfl rfl ?_
              exact z_iret d_m_sort_68 rfl (Nat.le_refl 0) (Nat.le_refl 0) (bad f1 f19 hw)
            · have hge : ¬ c.1 < lastL cs := by omega
              refine z_aload_n d_m_sort_60 61 rfl rfl rfl ?_
              refine zm_getF 11 d_m_sort_61 64 rfl f_m_47 rfl ?_; try simp only [pk_us, pk_un, ne_eq, Nat.reduceEqDiff, not_false_eq_true]
              rw [i4]
              refine z_if_neN (tgt := 69) d_m_sort_64 67 rfl rfl (by omega) (fun h64 => ?_) (fun h64 => ?_)
              · refine z_aload_n d_m_sort_69 70 rfl rfl rfl ?_
                refine zm_getF 11 d_m_sort_70 73 rfl f_m_47 rfl ?_; try simp only [pk_us, pk_un, ne_eq, Nat.reduceEqDiff, not_false_eq_true]
                rw [i4]
                refine z_bipush (v := nI 70) d_m_sort_73 75 rfl rfl ?_
                refine z_icmp_eqN (tgt := 87) d_m_sort_75 78 rfl rfl (by omega) (by omega) (fun h75 => ?_) (fun h75 => ?_)
                · refine z_aload_n d_m_sort_87 88 rfl rfl rfl ?_
                  refine zm_getF 12 d_m_sort_88 91 rfl f_m_74 rfl ?_; try simp only [pk_us, pk_un, ne_eq, Nat.reduceEqDiff, not_false_eq_true]
                  rw [i7 (Or.inl h75), show c.2.1 = keyC c by simp [keyC, h75]]
                  refine z_goto (tgt := 111) d_m_sort_91 rfl ?_
                  exact j111 hge
                · refine z_aload_n d_m_sort_78 79 rfl rfl rfl ?_
                  refine zm_getF 11 d_m_sort_79 82 rfl f_m_47 rfl ?_; try simp only [pk_us, pk_un, ne_eq, Nat.reduceEqDiff, not_false_eq_true]
                  rw [i4]
                  refine z_bipush (v := nI 84) d_m_sort_82 84 rfl rfl ?_
                  refine z_icmp_neN (tgt := 94) d_m_sort_84 87 rfl rfl (by omega) (by omega) (fun h84 => ?_) (fun h84 => ?_)
                  · refine z_aload_n d_m_sort_94 95 rfl rfl rfl ?_
                    refine zm_getF 11 d_m_sort_95 98 rfl f_m_47 rfl ?_; try simp only [pk_us, pk_un, ne_eq, Nat.reduceEqDiff, not_false_eq_true]
                    rw [i4]
                    refine z_bipush (v := nI 77) d_m_sort_98 100 rfl rfl ?_
                    refine z_icmp_neN (tgt := 110) d_m_sort_100 103 rfl rfl (by omega) (by omega) (fun h100 => ?_) (fun h100 => ?_)
                    · refine z_iconst (v := nI 0) d_m_sort_110 111 rfl rfl ?_
                      rw [show (nI 0 : Int32) = nI (keyC c) by simp [keyC, h75, h84, h100]]
                      exact j111 hge
                    · refine z_aload_n d_m_sort_103 104 rfl rfl rfl ?_
                      refine zm_getF 14 d_m_sort_104 107 rfl f_m_58 rfl ?_; try simp only [pk_us, pk_un, ne_eq, Nat.reduceEqDiff, not_false_eq_true]
                      obtain ⟨v, hv⟩ := Option.isSome_iff_exists.mp (hxs (by omega) (by omega))
                      rw [i5, show oI c.2.2.2.1 = nI (keyC c) by simp [keyC, h75, h84, h100, hv, oI]]
                      refine z_goto (tgt := 111) d_m_sort_107 rfl ?_
                      exact j111 hge
                  · refine z_aload_n d_m_sort_87 88 rfl rfl rfl ?_
                    refine zm_getF 12 d_m_sort_88 91 rfl f_m_74 rfl ?_; try simp only [pk_us, pk_un, ne_eq, Nat.reduceEqDiff, not_false_eq_true]
                    rw [i7 (Or.inr h84), show c.2.1 = keyC c by simp [keyC, h84]]
                    refine z_goto (tgt := 111) d_m_sort_91 rfl ?_
                    exact j111 hge
              · omega
  refine z_iconst (v := nI 0) d_m_sort_0 1 rfl rfl ?_
  refine z_ist2 d_m_sort_1 2 rfl rfl ?_
  refine z_iconst (v := -1) d_m_sort_2 3 rfl (by decide) ?_
  refine z_ist3 d_m_sort_3 4 rfl rfl ?_
  refine z_iconst (v := nI 0) d_m_sort_4 5 rfl rfl ?_
  refine z_ist4 d_m_sort_5 7 rfl rfl ?_
  refine z_iconst (v := nI 0) d_m_sort_7 8 rfl rfl ?_
  refine z_ist5 d_m_sort_8 10 rfl rfl ?_
  refine z_iconst (v := nI 0) d_m_sort_10 11 rfl rfl ?_
  refine z_ist6 d_m_sort_11 13 rfl rfl ?_
  refine z_iconst (v := nI 0) d_m_sort_13 14 rfl rfl ?_
  refine z_ist7 d_m_sort_14 16 rfl rfl ?_
  refine z_iconst (v := nI 0) d_m_sort_16 17 rfl rfl ?_
  refine z_ist8 d_m_sort_17 19 rfl rfl ?_
  refine z_iconst (v := nI 0) d_m_sort_19 20 rfl rfl ?_
  refine z_ist9 d_m_sort_20 22 rfl rfl ?_
  refine z_iconst (v := nI 0) d_m_sort_22 23 rfl rfl ?_
  refine z_ist10 d_m_sort_23 25 rfl rfl ?_
  refine z_iconst (v := nI 0) d_m_sort_25 26 rfl rfl ?_
  refine z_ist11 d_m_sort_26 28 rfl rfl ?_
  refine z_iconst (v := nI 0) d_m_sort_28 29 rfl rfl ?_
  refine z_ist12 d_m_sort_29 31 rfl rfl ?_
  exact loop bs.length 0 [] vf none none (by omega) (Nat.zero_le _) (by simp) (fun a ha => by cases ha) rfl rfl
/-- is the text a check-in beside these artifacts -/
def ciM1 (As : List (List Nat)) (bs : List Nat) : Bool := decide (sortM bs = 1) && (match filesL As (lns bs) 7 with
  | none => false
  | some d => hasL 82 (nI d) (lns bs))
end M8
end
section
/-! The reference: check-ins, writing. Own work. -/
/-- only slot s has changed -/
def sk (s : Nat) (va va' : Nat → Nat → Int32) : Prop := (∀ j, 2 ≤ j → va' j = va j) ∧ (∀ t, t ≠ s → va' 1 t = va 1 t) ∧ ∀ i, (i < 240 * s ∨ 240 * s + 240 ≤ i) → va' 0 i = va 0 i
theorem sk.rf (s : Nat) (va : Nat → Nat → Int32) : sk s va va := ⟨fun _ _ => rfl, fun _ _ => rfl, fun _ _ => rfl⟩
theorem sk.trans {s : Nat} {a b c : Nat → Nat → Int32} (h : sk s a b) (g : sk s b c) : sk s a c := ⟨fun j hj => (g.1 j hj).trans (h.1 j hj), fun t ht => (g.2.1 t ht).trans (h.2.1 t ht), fun i hi => (g.2.2 i hi).trans (h.2.2 i hi)⟩
theorem sk.slot {s t : Nat} {va va' : Nat → Nat → Int32} {bs : List Nat} (h : sk s va va') (ht : t ≠ s) (hr : slotP va t bs) : slotP va' t bs := by
  refine ⟨fun k hk => ?_, by rw [h.2.1 t ht]; exact hr.2.1, hr.2.2⟩
  have hl := hr.2.2
  rw [h.2.2 _ (by omega)]
  exact hr.1 k hk
theorem sk.rep {s r : Nat} {va va' : Nat → Nat → Int32} {As : List (List Nat)} (h : sk s va va') (hs : 64 ≤ s) (hr2 : r < 2) (hr : repP va r As) : repP va' r As := by
  have h32 := hr.1
  refine ⟨hr.1, by rw [h.1 3 (by decide)]; exact hr.2.1, fun i hi => ⟨h.slot (by omega) (hr.2.2 i hi).1, by rw [h.1 2 (by decide)]; exact (hr.2.2 i hi).2⟩⟩
theorem wr_ok {va : Nat → Nat → Int32} {s w : Nat} {bs : List Nat} (hr : slotP va s bs) (hl : bs.length < 240) (hw : w < 256) :
    sk s va (va_up (va_up va 0 (upd (va 0) (240 * s + bs.length) (sb_b w))) 1 (upd (va 1) s (nI (bs.length + 1)))) ∧ slotP (va_up (va_up va 0 (upd (va 0) (240 * s + bs.length) (sb_b w))) 1 (upd (va 1) s (nI (bs.length + 1)))) s (bs ++ [w]) := by
  refine ⟨⟨fun j hj => ?_, fun t ht => ?_, fun i hi => ?_⟩, fun k hk => ?_, ?_, ?_⟩
  · simp only [va_up]
    rw [if_neg (by omega), if_neg (by omega)]
  · show upd (va 1) s _ t = va 1 t
    exact pk_un ht
  · show upd (va 0) _ _ i = va 0 i
    exact pk_un (by omega)
  · show _ ∧ upd (va 0) (240 * s + bs.length) (sb_b w) (240 * s + k) = _
    simp only [List.length_append, List.length_singleton] at hk
    by_cases h : k = bs.length
    · subst h
      rw [pk_us]
      simp [hw]
    · rw [pk_un (by omega)]
      have := hr.1 k (by omega)
      rw [show (bs ++ [w]).getD k 0 = bs.getD k 0 by simp [List.getElem?_append_left (show k < bs.length by omega)]]
      exact this
  · simp [va_up, upd]
  · simp
    omega
/-- the six letters of a name -/
def nmB (n : Nat) : List Nat := [97 + n / 1048576 % 16, 97 + n / 65536 % 16, 97 + n / 4096 % 16, 97 + n / 256 % 16, 97 + n / 16 % 16, 97 + n % 16]
section M9
variable {l : Launch} {D : zD} {hp : zH} {o : Nat} {va : Nat → Nat → Int32} {vf : Nat → Int32} {Q : Option Value → zH → Prop}
/-- is the text a check-in beside these artifacts -/
def isCI (As : List (List Nat)) (bs : List Nat) : Bool := decide (sortM bs = 1) && (match filesL As (lns bs) 7 with
  | none => false
  | some d => hasL 82 (nI d) (lns bs))
theorem filesL_lt (As : List (List Nat)) : ∀ (t : List (Option CV)) (d e : Nat), d < 16777213 → filesL As t d = some e → e < 16777213 := by
  intro t
  induction t with
  | nil => intro d e hd h; simp [filesL] at h; omega
  | cons x t ih =>
    intro d e hd h
    cases x with
    | none => exact ih d e hd h
    | some c =>
      rw [filesL] at h
      split at h
      · split at h
        · cases h
        · exact ih _ e (dg_lt hd _) h
      · exact ih d e hd h
theorem sortM_le (bs : List Nat) : sortM bs ≤ 3 := by
  unfold sortM
  split
  · omega
  · unfold sortC
    (repeat' split) <;> omega
theorem c_m_isCheckIn (r s : Nat) {As : List (List Nat)} {bs : List Nat} (hr2 : r < 2) (hR : repP va r As) (hr : slotP va s bs) (hs : s < 66)
    (hQ : ∀ f : Nat → Int32, f 9 = vf 9 → Q (some (.int (zb (isCI As bs)))) (zmod D o hp va f)) : Runs l D M_m_isCheckIn [.ref o, .int (nI r), .int (nI s)] (zmod D o hp va vf) 0 0 Q := by
  refine Runs.of rfl rfl (Nat.le_of_ble_eq_true rfl) ?_
  have h3 := sortM_le bs
  refine z_aload_n d_m_isCheckIn_0 1 rfl rfl rfl ?_
  refine z_iload_n d_m_isCheckIn_1 2 rfl rfl rfl ?_
  refine zm_cV (fun v a f => v = .int (nI (sortM bs)) ∧ va = a ∧ f 9 = vf 9) d_m_isCheckIn_2 5 rfl mv_m_sort kl_m_101 (by decide) (fun Q' h => c_m_sort s hr hs (fun f h1 => h _ _ _ ⟨rfl, rfl, h1⟩)) rfl rfl (Nat.le_of_ble_eq_true rfl) ?_; rintro _ _ f ⟨rfl, rfl, i1⟩
  refine z_iconst (v := nI 1) d_m_isCheckIn_5 6 rfl rfl ?_
  refine z_icmp_eqN (tgt := 11) d_m_isCheckIn_6 9 rfl rfl (by omega) (by omega) (fun h6 => ?_) (fun h6 => ?_)
  · refine z_aload_n d_m_isCheckIn_11 12 rfl rfl rfl ?_
    refine z_iload_n d_m_isCheckIn_12 13 rfl rfl rfl ?_
    refine z_iload_n d_m_isCheckIn_13 14 rfl rfl rfl ?_
    refine zm_cV (fun v a f' => v = .int (oI (filesL As (lns bs) 7)) ∧ va = a ∧ f' 9 = f 9) d_m_isCheckIn_14 17 rfl mv_m_filesOf kl_m_105 (by decide) (fun Q' h => c_m_filesOf r s hr2 hR hr hs (fun f h1 => h _ _ _ ⟨rfl, rfl, h1⟩)) rfl rfl (Nat.le_of_ble_eq_true rfl) ?_; rintro _ _ f2 ⟨rfl, rfl, i2⟩
    refine z_ist3 d_m_isCheckIn_17 18 rfl rfl ?_
    refine z_iload_n d_m_isCheckIn_18 19 rfl rfl rfl ?_
    refine z_if_ltO (tgt := 37) d_m_isCheckIn_19 22 rfl rfl (fun v h => by have := filesL_lt As _ _ _ (by decide) h; omega) (fun h19 => ?_) (fun w19 h19 => ?_)
    · have e : isCI As bs = false := by simp [isCI, h19]
      have q := hQ f2 (i2.trans i1)
      rw [e] at q
      refine z_iconst (v := nI 0) d_m_isCheckIn_37 38 rfl rfl ?_
      exact z_zretB (b := false) d_m_isCheckIn_38 rfl (Nat.le_refl 0) (Nat.le_refl 0) q
    · have e : isCI As bs = hasL 82 (nI w19) (lns bs) := by simp [isCI, h19, h6]
      rw [h19]
      refine z_aload_n d_m_isCheckIn_22 23 rfl rfl rfl ?_
      refine z_iload_n d_m_isCheckIn_23 24 rfl rfl rfl ?_
      refine z_bipush (v := nI 82) d_m_isCheckIn_24 26 rfl rfl ?_
      refine z_iload_n d_m_isCheckIn_26 27 rfl rfl rfl ?_
      refine zm_cV (fun v a f' => v = .int (zb (hasL 82 (nI w19) (lns bs))) ∧ va = a ∧ f' 9 = f2 9) d_m_isCheckIn_27 30 rfl mv_m_has kl_m_108 (by decide) (fun Q' h => c_m_has s 82 _ hr hs (by decide) (fun f h1 => h _ _ _ ⟨rfl, rfl, h1⟩)) rfl rfl (Nat.le_of_ble_eq_true rfl) ?_; rintro _ _ f3 ⟨rfl, rfl, i3⟩
      have q := hQ f3 (i3.trans (i2.trans i1))
      rw [e] at q
      refine z_if_eqB (tgt := 37) d_m_isCheckIn_30 33 rfl rfl (fun h30 => ?_) (fun h30 => ?_)
      · refine z_iconst (v := nI 0) d_m_isCheckIn_37 38 rfl rfl ?_
        exact z_zretB (b := false) d_m_isCheckIn_38 rfl (Nat.le_refl 0) (Nat.le_refl 0) (by rw [h30] at q; exact q)
      · refine z_iconst (v := nI 1) d_m_isCheckIn_33 34 rfl rfl ?_
        refine z_goto (tgt := 38) d_m_isCheckIn_34 rfl ?_
        exact z_zretB (b := true) d_m_isCheckIn_38 rfl (Nat.le_refl 0) (Nat.le_refl 0) (by rw [h30] at q; exact q)
  · have e : isCI As bs = false := by simp [isCI, h6]
    have q := hQ f i1
    rw [e] at q
    refine z_iconst (v := nI 0) d_m_isCheckIn_9 10 rfl rfl ?_
    exact z_zretB (b := false) d_m_isCheckIn_10 rfl (Nat.le_refl 0) (Nat.le_refl 0) q
theorem c_m_write (s w : Nat) {bs : List Nat} (hr : slotP va s bs) (hs : s < 66) (hl : bs.length < 240) (hw : w < 256)
    (hQ : ∀ va' : Nat → Nat → Int32, sk s va va' → slotP va' s (bs ++ [w]) → Q none (zmod D o hp va' vf)) : Runs l D M_m_write [.ref o, .int (nI s), .int (nI w)] (zmod D o hp va vf) 0 0 Q := by
  refine Runs.of rfl rfl (Nat.le_of_ble_eq_true rfl) ?_
  refine z_aload_n d_m_write_0 1 rfl rfl rfl ?_
  refine zm_getA 0 d_m_write_1 4 rfl f_m_7 rfl ?_
  refine z_sipush (v := nI 240) d_m_write_4 7 rfl rfl ?_
  refine z_iload_n d_m_write_7 8 rfl rfl rfl ?_
  first | refine z_imulN d_m_write_8 9 rfl ?_ | refine z_imul d_m_write_8 9 rfl ?_
  refine z_aload_n d_m_write_9 10 rfl rfl rfl ?_
  refine zm_getA 1 d_m_write_10 13 rfl f_m_13 rfl ?_
  refine z_iload_n d_m_write_13 14 rfl rfl rfl ?_
  refine zm_iald d_m_write_14 15 rfl (by decide) rfl (by simp only [zln]; omega) ?_
  rw [hr.2.1]
  first | refine z_iaddN d_m_write_15 16 rfl ?_ | refine z_iadd d_m_write_15 16 rfl ?_
  refine z_iload_n d_m_write_16 17 rfl rfl rfl ?_
  refine z_i2b d_m_write_17 18 rfl rfl ?_
  refine zm_bast d_m_write_18 19 rfl (by omega) ?_
  rw [pk_vb]
  refine z_aload_n d_m_write_19 20 rfl rfl rfl ?_
  refine zm_getA 1 d_m_write_20 23 rfl f_m_13 rfl ?_
  refine z_iload_n d_m_write_23 24 rfl rfl rfl ?_
  refine z_dup2 d_m_write_24 25 rfl rfl rfl ?_
  refine zm_iald d_m_write_25 26 rfl (by decide) rfl (by simp only [zln]; omega) ?_
  rw [show va_up va 0 (upd (va 0) (240 * s + bs.length) (nI w).toInt8.toInt32) 1 s = nI bs.length by rw [← hr.2.1]; rfl]
  refine z_iconst (v := nI 1) d_m_write_26 27 rfl rfl ?_
  first | refine z_iaddN d_m_write_27 28 rfl ?_ | refine z_iadd d_m_write_27 28 rfl ?_
  refine zm_iast d_m_write_28 29 rfl (by decide) rfl (by simp only [zln]; omega) ?_
  obtain ⟨h1, h2⟩ := wr_ok hr hl hw
  exact z_vret d_m_write_29 rfl (Nat.le_refl 0) (Nat.le_refl 0) (hQ _ h1 h2)
theorem c_m_writeName (s n : Nat) {bs : List Nat} (hr : slotP va s bs) (hs : s < 66) (hl : bs.length + 6 ≤ 240) (hn : n < 16777216)
    (hQ : ∀ va' : Nat → Nat → Int32, sk s va va' → slotP va' s (bs ++ nmB n) → Q none (zmod D o hp va' vf)) : Runs l D M_m_writeName [.ref o, .int (nI s), .int (nI n)] (zmod D o hp va vf) 0 0 Q := by
  refine Runs.of rfl rfl (Nat.le_of_ble_eq_true rfl) ?_
  refine z_bipush (v := nI 20) d_m_writeName_0 2 rfl rfl ?_
  refine z_ist3 d_m_writeName_2 3 rfl rfl ?_
  have step : ∀ (K K' sh : Int32) (p : Nat) (x : Nat → Nat → Int32) (b : List Nat), ¬ K < 0 → K + Int32.ofInt (-4) = K' → ((K &&& 31).toBitVec.smod 32).toNat = p → b.length < 240 → slotP x s b → (∀ x', sk s x x' → slotP x' s (b ++ [97 + n / 2 ^ p % 16]) → Z l D M_m_writeName 0 0 Q (zmod D o hp x' vf) 0 0 3 [some (.ref o), some (.int (nI s)), some (.int (nI n)), some (.int K')] []) → Z l D M_m_writeName 0 0 Q (zmod D o hp x vf) 0 0 3 [some (.ref o), some (.int (nI s)), some (.int (nI n)), some (.int K)] [] := by
    intro K K' sh p x b hK hK' hp9 hb hx go
    refine z_iload_n d_m_writeName_3 4 rfl rfl rfl ?_
    refine z_if_lt (tgt := 27) d_m_writeName_4 7 rfl rfl (fun h4 => ?_) (fun h4 => ?_)
    · exact absurd h4 hK
    · refine z_aload_n d_m_writeName_7 8 rfl rfl rfl ?_
      refine z_iload_n d_m_writeName_8 9 rfl rfl rfl ?_
      refine z_bipush (v := nI 97) d_m_writeName_9 11 rfl rfl ?_
      refine z_iload_n d_m_writeName_11 12 rfl rfl rfl ?_
      refine z_iload_n d_m_writeName_12 13 rfl rfl rfl ?_
      refine z_ishr d_m_writeName_13 14 rfl ?_
      rw [pk_shrN (by omega) (K &&& 31) p hp9]
      refine z_bipush (v := nI 15) d_m_writeName_14 16 rfl rfl ?_
      refine z_iand d_m_writeName_16 17 rfl ?_
      have hdl : n / 2 ^ p ≤ n := Nat.div_le_self _ _
      rw [pk_andN (n := n / 2 ^ p) (by omega) (m := nI 15) 4 (by decide)]
      first | refine z_iaddN d_m_writeName_17 18 rfl ?_ | refine z_iadd d_m_writeName_17 18 rfl ?_
      refine zm_cVv (fun a f => f = vf ∧ sk s x a ∧ slotP a s (b ++ [97 + n / 2 ^ p % 2 ^ 4])) d_m_writeName_18 21 rfl mv_m_write kl_m_111 (by decide) (fun Q' h => c_m_write s _ hx hs hb (by omega) (fun a h1 h2 => h _ _ ⟨rfl, h1, h2⟩)) rfl rfl (Nat.le_of_ble_eq_true rfl) ?_; rintro a _ ⟨rfl, i1, i2⟩
      refine z_inc3 d_m_writeName_21 24 rfl hK' rfl ?_
      refine z_goto (tgt := 3) d_m_writeName_24 rfl ?_
      exact go a i1 i2
  refine step (nI 20) (nI 16) 0 20 va bs (by decide) (by decide) (by decide) (by omega) hr (fun x1 k1 s1 => ?_)
  refine step (nI 16) (nI 12) 0 16 x1 _ (by decide) (by decide) (by decide) (by simp; omega) s1 (fun x2 k2 s2 => ?_)
  refine step (nI 12) (nI 8) 0 12 x2 _ (by decide) (by decide) (by decide) (by simp; omega) s2 (fun x3 k3 s3 => ?_)
  refine step (nI 8) (nI 4) 0 8 x3 _ (by decide) (by decide) (by decide) (by simp; omega) s3 (fun x4 k4 s4 => ?_)
  refine step (nI 4) (nI 0) 0 4 x4 _ (by decide) (by decide) (by decide) (by simp; omega) s4 (fun x5 k5 s5 => ?_)
  refine step (nI 0) (-4) 0 0 x5 _ (by decide) (by decide) (by decide) (by simp; omega) s5 (fun x6 k6 s6 => ?_)
  refine z_iload_n d_m_writeName_3 4 rfl rfl rfl ?_
  refine z_if_lt (tgt := 27) d_m_writeName_4 7 rfl rfl (fun h4 => ?_) (fun h4 => ?_)
  · exact z_vret d_m_writeName_27 rfl (Nat.le_refl 0) (Nat.le_refl 0) (hQ x6 (((((k1.trans k2).trans k3).trans k4).trans k5).trans k6) (by simpa [nmB] using s6))
  · exact absurd (by decide) h4
end M9
end
section
/-! The reference: cards are written, raw bytes, the draft. Own work. -/
def toN (a : Int32) : Nat := a.toNatClampNeg
theorem toN_nI {n : Nat} (h : n < 2 ^ 31) : toN (nI n) = n := nI_clamp h
theorem nI_toN {a : Int32} (h : ¬ a < 0) : a = nI (toN a) ∧ toN a < 2 ^ 31 := by
  obtain ⟨j, hj, rfl⟩ := nI_of h
  rw [toN_nI hj]
  exact ⟨rfl, hj⟩
theorem isNm_to {a : Int32} (h : isNm a = true) : ¬ a < 0 ∧ a = nI (toN a) ∧ toN a < 16777216 := by
  simp only [isNm, Bool.and_eq_true, Bool.not_eq_true', decide_eq_false_iff_not] at h
  obtain ⟨e, hl⟩ := nI_toN h.1
  refine ⟨h.1, e, ?_⟩
  have h2 := h.2
  rw [e] at h2
  have h3 : ¬ 16777215 < toN a := fun q => h2 ((nI_ltI (by decide) hl).2 q)
  omega
def dec (n : Nat) : List Nat := (if 1000 ≤ n then [48 + n / 1000 % 10] else []) ++ ((if 100 ≤ n then [48 + n / 100 % 10] else []) ++ ((if 10 ≤ n then [48 + n / 10 % 10] else []) ++ [48 + n / 1 % 10]))
def sgn (a : Int32) : Nat := if a < 0 then 45 else 43
def dg1 (a : Int32) : Nat := if a < 0 then toN (-1 - a) else toN a
/-- the bytes of a card that can be written; d: the digest for a Z card -/
def cardW (k a b : Int32) (d : Nat) : Option (List Nat) :=
  if k = 0 then (if ¬ a < 0 ∧ a ≤ nI 9999 then some ([68, 32] ++ dec (toN a) ++ [10]) else none)
  else if k = nI 1 then (if ¬ a < 0 ∧ ¬ nI 9 < a ∧ isNm b = true then some ([70, 32, 48 + toN a, 32] ++ nmB (toN b) ++ [10]) else none)
  else if k = nI 2 then (if isNm a = true then some ([77, 32] ++ nmB (toN a) ++ [10]) else none)
  else if k = nI 4 then (if isNm a = true then some ([82, 32] ++ nmB (toN a) ++ [10]) else none)
  else if k = nI 3 then (if isNm a = true then (if b = -1 then some ([80, 32] ++ nmB (toN a) ++ [10]) else if isNm b = true ∧ ¬ a = b then some ([80, 32] ++ nmB (toN a) ++ [32] ++ nmB (toN b) ++ [10]) else none) else none)
  else if k = nI 5 then (if ¬ a < -10 ∧ a ≤ nI 9 then (if b = -1 then some [84, 32, sgn a, 48 + dg1 a, 32, 42, 10] else if isNm b = true then some ([84, 32, sgn a, 48 + dg1 a, 32] ++ nmB (toN b) ++ [10]) else none) else none)
  else if k = nI 6 then some ([90, 32] ++ nmB d ++ [10]) else none
def szW (k a b : Int32) : Nat := ((cardW k a b 0).map List.length).getD 0
theorem cardW_len (k a b : Int32) (d : Nat) : (cardW k a b d).map List.length = (cardW k a b 0).map List.length := by
  unfold cardW
  (repeat' split) <;> simp [nmB]
theorem szW_le (k a b : Int32) : szW k a b ≤ 16 := by
  unfold szW cardW dec
  (repeat' split) <;> simp [nmB]
theorem szW_some {k a b : Int32} (d : Nat) (h : szW k a b ≠ 0) : ∃ L, cardW k a b d = some L ∧ L.length = szW k a b := by
  have e := cardW_len k a b d
  cases hc : cardW k a b d with
  | none =>
    rw [hc] at e
    exfalso
    apply h
    rw [szW, ← e]
    rfl
  | some L =>
    rw [hc] at e
    refine ⟨L, rfl, ?_⟩
    rw [szW, ← e]
    rfl
theorem szW_none {k a b : Int32} (d : Nat) (h : szW k a b = 0) : cardW k a b d = none := by
  have e := cardW_len k a b d
  cases hc : cardW k a b d with
  | none => rfl
  | some L =>
    rw [hc] at e
    rw [szW, ← e] at h
    simp at h
    exfalso
    subst h
    unfold cardW at hc
    (repeat' split at hc) <;> simp at hc
def ltW (k : Int32) : Nat := if k = 0 then 68 else if k = nI 1 then 70 else if k = nI 2 then 77 else if k = nI 3 then 80 else if k = nI 4 then 82 else if k = nI 5 then 84 else 90
section M10
variable {l : Launch} {D : zD} {hp : zH} {o : Nat} {va : Nat → Nat → Int32} {vf : Nat → Int32} {Q : Option Value → zH → Prop}
theorem c_m_letterOf (k : Int32) (hQ : Q (some (.int (nI (ltW k)))) hp) : Runs l D M_m_letterOf [.int k] hp 0 0 Q := by
  refine Runs.of rfl rfl (Nat.le_of_ble_eq_true rfl) ?_
  refine z_iload_n d_m_letterOf_0 1 rfl rfl rfl ?_
  refine z_if_ne (tgt := 9) d_m_letterOf_1 4 rfl rfl (fun h1 => ?_) (fun h1 => ?_)
  · refine z_iload_n d_m_letterOf_9 10 rfl rfl rfl ?_
    refine z_iconst (v := nI 1) d_m_letterOf_10 11 rfl rfl ?_
    refine z_icmp_ne (tgt := 19) d_m_letterOf_11 14 rfl rfl (fun h11 => ?_) (fun h11 => ?_)
    · refine z_iload_n d_m_letterOf_19 20 rfl rfl rfl ?_
      refine z_iconst (v := nI 2) d_m_letterOf_20 21 rfl rfl ?_
      refine z_icmp_ne (tgt := 29) d_m_letterOf_21 24 rfl rfl (fun h21 => ?_) (fun h21 => ?_)
      · refine z_iload_n d_m_letterOf_29 30 rfl rfl rfl ?_
        refine z_iconst (v := nI 3) d_m_letterOf_30 31 rfl rfl ?_
        refine z_icmp_ne (tgt := 39) d_m_letterOf_31 34 rfl rfl (fun h31 => ?_) (fun h31 => ?_)
        · refine z_iload_n d_m_letterOf_39 40 rfl rfl rfl ?_
          refine z_iconst (v := nI 4) d_m_letterOf_40 41 rfl rfl ?_
          refine z_icmp_ne (tgt := 49) d_m_letterOf_41 44 rfl rfl (fun h41 => ?_) (fun h41 => ?_)
          · refine z_iload_n d_m_letterOf_49 50 rfl rfl rfl ?_
            refine z_iconst (v := nI 5) d_m_letterOf_50 51 rfl rfl ?_
            refine z_icmp_ne (tgt := 59) d_m_letterOf_51 54 rfl rfl (fun h51 => ?_) (fun h51 => ?_)
            · refine z_bipush (v := nI 90) d_m_letterOf_59 61 rfl rfl ?_
              exact z_iret d_m_letterOf_61 rfl (Nat.le_refl 0) (Nat.le_refl 0) (by simpa [ltW, nI_eq, nI_z, *] using hQ)
            · refine z_bipush (v := nI 84) d_m_letterOf_54 56 rfl rfl ?_
              refine z_goto (tgt := 61) d_m_letterOf_56 rfl ?_
              exact z_iret d_m_letterOf_61 rfl (Nat.le_refl 0) (Nat.le_refl 0) (by simpa [ltW, nI_eq, nI_z, *] using hQ)
          · refine z_bipush (v := nI 82) d_m_letterOf_44 46 rfl rfl ?_
            refine z_goto (tgt := 61) d_m_letterOf_46 rfl ?_
            exact z_iret d_m_letterOf_61 rfl (Nat.le_refl 0) (Nat.le_refl 0) (by simpa [ltW, nI_eq, nI_z, *] using hQ)
        · refine z_bipush (v := nI 80) d_m_letterOf_34 36 rfl rfl ?_
          refine z_goto (tgt := 61) d_m_letterOf_36 rfl ?_
          exact z_iret d_m_letterOf_61 rfl (Nat.le_refl 0) (Nat.le_refl 0) (by simpa [ltW, nI_eq, nI_z, *] using hQ)
      · refine z_bipush (v := nI 77) d_m_letterOf_24 26 rfl rfl ?_
        refine z_goto (tgt := 61) d_m_letterOf_26 rfl ?_
        exact z_iret d_m_letterOf_61 rfl (Nat.le_refl 0) (Nat.le_refl 0) (by simpa [ltW, nI_eq, nI_z, *] using hQ)
    · refine z_bipush (v := nI 70) d_m_letterOf_14 16 rfl rfl ?_
      refine z_goto (tgt := 61) d_m_letterOf_16 rfl ?_
      exact z_iret d_m_letterOf_61 rfl (Nat.le_refl 0) (Nat.le_refl 0) (by simpa [ltW, nI_eq, nI_z, *] using hQ)
  · refine z_bipush (v := nI 68) d_m_letterOf_4 6 rfl rfl ?_
    refine z_goto (tgt := 61) d_m_letterOf_6 rfl ?_
    exact z_iret d_m_letterOf_61 rfl (Nat.le_refl 0) (Nat.le_refl 0) (by simpa [ltW, nI_eq, nI_z, *] using hQ)
theorem c_m_size (k a b : Int32) (hQ : Q (some (.int (nI (szW k a b)))) hp) : Runs l D M_m_size [.int k, .int a, .int b] hp 0 0 Q := by
  refine Runs.of rfl rfl (Nat.le_of_ble_eq_true rfl) ?_
  refine z_iload_n d_m_size_0 1 rfl rfl rfl ?_
  refine z_if_ne (tgt := 54) d_m_size_1 4 rfl rfl (fun h1 => ?_) (fun h1 => ?_)
  · refine z_iload_n d_m_size_54 55 rfl rfl rfl ?_
    refine z_iconst (v := nI 1) d_m_size_55 56 rfl rfl ?_
    refine z_icmp_ne (tgt := 83) d_m_size_56 59 rfl rfl (fun h56 => ?_) (fun h56 => ?_)
    · refine z_iload_n d_m_size_83 84 rfl rfl rfl ?_
      refine z_iconst (v := nI 2) d_m_size_84 85 rfl rfl ?_
      refine z_icmp_eq (tgt := 93) d_m_size_85 88 rfl rfl (fun h85 => ?_) (fun h85 => ?_)
      · refine z_iload_n d_m_size_93 94 rfl rfl rfl ?_
        refine zm_cS1 d_m_size_94 97 rfl ms_m_isName kl_m_115 (by decide) (fun Q' h => c_m_isName _ h) rfl rfl (Nat.le_of_ble_eq_true rfl) ?_
        refine z_if_eqB (tgt := 105) d_m_size_97 100 rfl rfl (fun h97 => ?_) (fun h97 => ?_)
        · refine z_iconst (v := nI 0) d_m_size_105 106 rfl rfl ?_
          exact z_iret d_m_size_106 rfl (Nat.le_refl 0) (Nat.le_refl 0) (by rw [show szW k a b = 0 by simp [szW, cardW, nmB, nI_eq, nI_z, *]] at hQ; exact hQ)
        · refine z_bipush (v := nI 9) d_m_size_100 102 rfl rfl ?_
          refine z_goto (tgt := 106) d_m_size_102 rfl ?_
          exact z_iret d_m_size_106 rfl (Nat.le_refl 0) (Nat.le_refl 0) (by rw [show szW k a b = 9 by simp [szW, cardW, nmB, nI_eq, nI_z, *]] at hQ; exact hQ)
      · refine z_iload_n d_m_size_88 89 rfl rfl rfl ?_
        refine z_iconst (v := nI 4) d_m_size_89 90 rfl rfl ?_
        refine z_icmp_ne (tgt := 107) d_m_size_90 93 rfl rfl (fun h90 => ?_) (fun h90 => ?_)
        · refine z_iload_n d_m_size_107 108 rfl rfl rfl ?_
          refine z_iconst (v := nI 3) d_m_size_108 109 rfl rfl ?_
          refine z_icmp_ne (tgt := 152) d_m_size_109 112 rfl rfl (fun h109 => ?_) (fun h109 => ?_)
          · refine z_iload_n d_m_size_152 153 rfl rfl rfl ?_
            refine z_iconst (v := nI 5) d_m_size_153 154 rfl rfl ?_
            refine z_icmp_ne (tgt := 197) d_m_size_154 157 rfl rfl (fun h154 => ?_) (fun h154 => ?_)
            · refine z_iload_n d_m_size_197 198 rfl rfl rfl ?_
              refine z_bipush (v := nI 6) d_m_size_198 200 rfl rfl ?_
              refine z_icmp_ne (tgt := 208) d_m_size_200 203 rfl rfl (fun h200 => ?_) (fun h200 => ?_)
              · refine z_iconst (v := nI 0) d_m_size_208 209 rfl rfl ?_
                exact z_iret d_m_size_209 rfl (Nat.le_refl 0) (Nat.le_refl 0) (by rw [show szW k a b = 0 by simp [szW, cardW, nmB, nI_eq, nI_z, *]] at hQ; exact hQ)
              · refine z_bipush (v := nI 9) d_m_size_203 205 rfl rfl ?_
                refine z_goto (tgt := 209) d_m_size_205 rfl ?_
                exact z_iret d_m_size_209 rfl (Nat.le_refl 0) (Nat.le_refl 0) (by rw [show szW k a b = 9 by simp [szW, cardW, nmB, nI_eq, nI_z, *]] at hQ; exact hQ)
            · refine z_iload_n d_m_size_157 158 rfl rfl rfl ?_
              refine z_bipush (v := -10) d_m_size_158 160 rfl (by decide) ?_
              refine z_icmp_lt (tgt := 169) d_m_size_160 163 rfl rfl (fun h160 => ?_) (fun h160 => ?_)
              · refine z_iconst (v := nI 0) d_m_size_169 170 rfl rfl ?_
                refine z_goto (tgt := 196) d_m_size_170 rfl ?_
                exact z_iret d_m_size_196 rfl (Nat.le_refl 0) (Nat.le_refl 0) (by rw [show szW k a b = 0 by simp [szW, cardW, nmB, nI_eq, nI_z, *]] at hQ; exact hQ)
              · refine z_iload_n d_m_size_163 164 rfl rfl rfl ?_
                refine z_bipush (v := nI 9) d_m_size_164 166 rfl rfl ?_
                refine z_icmp_le (tgt := 173) d_m_size_166 169 rfl rfl (fun h166 => ?_) (fun h166 => ?_)
                · refine z_iload_n d_m_size_173 174 rfl rfl rfl ?_
                  refine z_iconst (v := -1) d_m_size_174 175 rfl (by decide) ?_
                  refine z_icmp_ne (tgt := 183) d_m_size_175 178 rfl rfl (fun h175 => ?_) (fun h175 => ?_)
                  · refine z_iload_n d_m_size_183 184 rfl rfl rfl ?_
                    refine zm_cS1 d_m_size_184 187 rfl ms_m_isName kl_m_115 (by decide) (fun Q' h => c_m_isName _ h) rfl rfl (Nat.le_of_ble_eq_true rfl) ?_
                    refine z_if_eqB (tgt := 195) d_m_size_187 190 rfl rfl (fun h187 => ?_) (fun h187 => ?_)
                    · refine z_iconst (v := nI 0) d_m_size_195 196 rfl rfl ?_
                      exact z_iret d_m_size_196 rfl (Nat.le_refl 0) (Nat.le_refl 0) (by rw [show szW k a b = 0 by simp [szW, cardW, nmB, nI_eq, nI_z, *]] at hQ; exact hQ)
                    · refine z_bipush (v := nI 12) d_m_size_190 192 rfl rfl ?_
                      refine z_goto (tgt := 196) d_m_size_192 rfl ?_
                      exact z_iret d_m_size_196 rfl (Nat.le_refl 0) (Nat.le_refl 0) (by rw [show szW k a b = 12 by simp [szW, cardW, nmB, nI_eq, nI_z, *]] at hQ; exact hQ)
                  · refine z_bipush (v := nI 7) d_m_size_178 180 rfl rfl ?_
                    refine z_goto (tgt := 196) d_m_size_180 rfl ?_
                    exact z_iret d_m_size_196 rfl (Nat.le_refl 0) (Nat.le_refl 0) (by rw [show szW k a b = 7 by simp [szW, cardW, nmB, nI_eq, nI_z, *]] at hQ; exact hQ)
                · refine z_iconst (v := nI 0) d_m_size_169 170 rfl rfl ?_
                  refine z_goto (tgt := 196) d_m_size_170 rfl ?_
                  exact z_iret d_m_size_196 rfl (Nat.le_refl 0) (Nat.le_refl 0) (by rw [show szW k a b = 0 by simp [szW, cardW, nmB, nI_eq, nI_z, *]] at hQ; exact hQ)
          · refine z_iload_n d_m_size_112 113 rfl rfl rfl ?_
            refine zm_cS1 d_m_size_113 116 rfl ms_m_isName kl_m_115 (by decide) (fun Q' h => c_m_isName _ h) rfl rfl (Nat.le_of_ble_eq_true rfl) ?_
            refine z_if_neB (tgt := 123) d_m_size_116 119 rfl rfl (fun h116 => ?_) (fun h116 => ?_)
            · refine z_iload_n d_m_size_123 124 rfl rfl rfl ?_
              refine z_iconst (v := -1) d_m_size_124 125 rfl (by decide) ?_
              refine z_icmp_ne (tgt := 133) d_m_size_125 128 rfl rfl (fun h125 => ?_) (fun h125 => ?_)
              · refine z_iload_n d_m_size_133 134 rfl rfl rfl ?_
                refine zm_cS1 d_m_size_134 137 rfl ms_m_isName kl_m_115 (by decide) (fun Q' h => c_m_isName _ h) rfl rfl (Nat.le_of_ble_eq_true rfl) ?_
                refine z_if_eqB (tgt := 150) d_m_size_137 140 rfl rfl (fun h137 => ?_) (fun h137 => ?_)
                · refine z_iconst (v := nI 0) d_m_size_150 151 rfl rfl ?_
                  exact z_iret d_m_size_151 rfl (Nat.le_refl 0) (Nat.le_refl 0) (by rw [show szW k a b = 0 by simp [szW, cardW, nmB, nI_eq, nI_z, *]] at hQ; exact hQ)
                · refine z_iload_n d_m_size_140 141 rfl rfl rfl ?_
                  refine z_iload_n d_m_size_141 142 rfl rfl rfl ?_
                  refine z_icmp_eq (tgt := 150) d_m_size_142 145 rfl rfl (fun h142 => ?_) (fun h142 => ?_)
                  · refine z_iconst (v := nI 0) d_m_size_150 151 rfl rfl ?_
                    exact z_iret d_m_size_151 rfl (Nat.le_refl 0) (Nat.le_refl 0) (by rw [show szW k a b = 0 by simp [szW, cardW, nmB, nI_eq, nI_z, *]] at hQ; exact hQ)
                  · refine z_bipush (v := nI 16) d_m_size_145 147 rfl rfl ?_
                    refine z_goto (tgt := 151) d_m_size_147 rfl ?_
                    exact z_iret d_m_size_151 rfl (Nat.le_refl 0) (Nat.le_refl 0) (by rw [show szW k a b = 16 by simp [szW, cardW, nmB, nI_eq, nI_z, *]] at hQ; exact hQ)
              · refine z_bipush (v := nI 9) d_m_size_128 130 rfl rfl ?_
                refine z_goto (tgt := 151) d_m_size_130 rfl ?_
                exact z_iret d_m_size_151 rfl (Nat.le_refl 0) (Nat.le_refl 0) (by rw [show szW k a b = 9 by simp [szW, cardW, nmB, nI_eq, nI_z, *]] at hQ; exact hQ)
            · refine z_iconst (v := nI 0) d_m_size_119 120 rfl rfl ?_
              refine z_goto (tgt := 151) d_m_size_120 rfl ?_
              exact z_iret d_m_size_151 rfl (Nat.le_refl 0) (Nat.le_refl 0) (by rw [show szW k a b = 0 by simp [szW, cardW, nmB, nI_eq, nI_z, *]] at hQ; exact hQ)
        · refine z_iload_n d_m_size_93 94 rfl rfl rfl ?_
          refine zm_cS1 d_m_size_94 97 rfl ms_m_isName kl_m_115 (by decide) (fun Q' h => c_m_isName _ h) rfl rfl (Nat.le_of_ble_eq_true rfl) ?_
          refine z_if_eqB (tgt := 105) d_m_size_97 100 rfl rfl (fun h97 => ?_) (fun h97 => ?_)
          · refine z_iconst (v := nI 0) d_m_size_105 106 rfl rfl ?_
            exact z_iret d_m_size_106 rfl (Nat.le_refl 0) (Nat.le_refl 0) (by rw [show szW k a b = 0 by simp [szW, cardW, nmB, nI_eq, nI_z, *]] at hQ; exact hQ)
          · refine z_bipush (v := nI 9) d_m_size_100 102 rfl rfl ?_
            refine z_goto (tgt := 106) d_m_size_102 rfl ?_
            exact z_iret d_m_size_106 rfl (Nat.le_refl 0) (Nat.le_refl 0) (by rw [show szW k a b = 9 by simp [szW, cardW, nmB, nI_eq, nI_z, *]] at hQ; exact hQ)
    · refine z_iload_n d_m_size_59 60 rfl rfl rfl ?_
      refine z_if_lt (tgt := 81) d_m_size_60 63 rfl rfl (fun h60 => ?_) (fun h60 => ?_)
      · refine z_iconst (v := nI 0) d_m_size_81 82 rfl rfl ?_
        exact z_iret d_m_size_82 rfl (Nat.le_refl 0) (Nat.le_refl 0) (by rw [show szW k a b = 0 by simp [szW, cardW, nmB, nI_eq, nI_z, *]] at hQ; exact hQ)
      · refine z_iload_n d_m_size_63 64 rfl rfl rfl ?_
        refine z_bipush (v := nI 9) d_m_size_64 66 rfl rfl ?_
        refine z_icmp_gt (tgt := 81) d_m_size_66 69 rfl rfl (fun h66 => ?_) (fun h66 => ?_)
        · refine z_iconst (v := nI 0) d_m_size_81 82 rfl rfl ?_
          exact z_iret d_m_size_82 rfl (Nat.le_refl 0) (Nat.le_refl 0) (by rw [show szW k a b = 0 by simp [szW, cardW, nmB, nI_eq, nI_z, *]] at hQ; exact hQ)
        · refine z_iload_n d_m_size_69 70 rfl rfl rfl ?_
          refine zm_cS1 d_m_size_70 73 rfl ms_m_isName kl_m_115 (by decide) (fun Q' h => c_m_isName _ h) rfl rfl (Nat.le_of_ble_eq_true rfl) ?_
          refine z_if_eqB (tgt := 81) d_m_size_73 76 rfl rfl (fun h73 => ?_) (fun h73 => ?_)
          · refine z_iconst (v := nI 0) d_m_size_81 82 rfl rfl ?_
            exact z_iret d_m_size_82 rfl (Nat.le_refl 0) (Nat.le_refl 0) (by rw [show szW k a b = 0 by simp [szW, cardW, nmB, nI_eq, nI_z, *]] at hQ; exact hQ)
          · refine z_bipush (v := nI 11) d_m_size_76 78 rfl rfl ?_
            refine z_goto (tgt := 82) d_m_size_78 rfl ?_
            exact z_iret d_m_size_82 rfl (Nat.le_refl 0) (Nat.le_refl 0) (by rw [show szW k a b = 11 by simp [szW, cardW, nmB, nI_eq, nI_z, *]] at hQ; exact hQ)
  · refine z_iload_n d_m_size_4 5 rfl rfl rfl ?_
    refine z_if_lt (tgt := 15) d_m_size_5 8 rfl rfl (fun h5 => ?_) (fun h5 => ?_)
    · refine z_iconst (v := nI 0) d_m_size_15 16 rfl rfl ?_
      refine z_goto (tgt := 53) d_m_size_16 rfl ?_
      exact z_iret d_m_size_53 rfl (Nat.le_refl 0) (Nat.le_refl 0) (by rw [show szW k a b = 0 by simp [szW, cardW, nI_eq, nI_z, *]] at hQ; exact hQ)
    · obtain ⟨e, he⟩ := nI_toN h5
      refine z_iload_n d_m_size_8 9 rfl rfl rfl ?_
      refine z_sipush (v := nI 9999) d_m_size_9 12 rfl rfl ?_
      refine z_icmp_le (tgt := 19) d_m_size_12 15 rfl rfl (fun h12 => ?_) (fun h12 => ?_)
      · have h9 : toN a ≤ 9999 := by rw [e] at h12; exact (nI_leI he (by decide)).1 h12
        have hc : ∀ d, cardW k a b d = some ([68, 32] ++ dec (toN a) ++ [10]) := by intro d; rw [cardW, if_pos h1, if_pos ⟨h5, h12⟩]
        rw [show szW k a b = (dec (toN a)).length + 3 by simp [szW, hc]] at hQ
        generalize toN a = m at e h9 hQ
        subst e
        refine z_iload_n d_m_size_19 20 rfl rfl rfl ?_
        refine z_bipush (v := nI 10) d_m_size_20 22 rfl rfl ?_
        refine z_icmp_geN (tgt := 29) d_m_size_22 25 rfl rfl (by omega) (by omega) (fun h22 => ?_) (fun h22 => ?_)
        · refine z_iload_n d_m_size_29 30 rfl rfl rfl ?_
          refine z_bipush (v := nI 100) d_m_size_30 32 rfl rfl ?_
          refine z_icmp_geN (tgt := 39) d_m_size_32 35 rfl rfl (by omega) (by omega) (fun h32 => ?_) (fun h32 => ?_)
          · refine z_iload_n d_m_size_39 40 rfl rfl rfl ?_
            refine z_sipush (v := nI 1000) d_m_size_40 43 rfl rfl ?_
            refine z_icmp_geN (tgt := 51) d_m_size_43 46 rfl rfl (by omega) (by omega) (fun h43 => ?_) (fun h43 => ?_)
            · refine z_bipush (v := nI 7) d_m_size_51 53 rfl rfl ?_
              exact z_iret d_m_size_53 rfl (Nat.le_refl 0) (Nat.le_refl 0) (by rw [show (dec m).length + 3 = 7 by (simp only [dec]; (repeat' split) <;> simp <;> omega)] at hQ; exact hQ)
            · refine z_bipush (v := nI 6) d_m_size_46 48 rfl rfl ?_
              refine z_goto (tgt := 53) d_m_size_48 rfl ?_
              exact z_iret d_m_size_53 rfl (Nat.le_refl 0) (Nat.le_refl 0) (by rw [show (dec m).length + 3 = 6 by (simp only [dec]; (repeat' split) <;> simp <;> omega)] at hQ; exact hQ)
          · refine z_iconst (v := nI 5) d_m_size_35 36 rfl rfl ?_
            refine z_goto (tgt := 53) d_m_size_36 rfl ?_
            exact z_iret d_m_size_53 rfl (Nat.le_refl 0) (Nat.le_refl 0) (by rw [show (dec m).length + 3 = 5 by (simp only [dec]; (repeat' split) <;> simp <;> omega)] at hQ; exact hQ)
        · refine z_iconst (v := nI 4) d_m_size_25 26 rfl rfl ?_
          refine z_goto (tgt := 53) d_m_size_26 rfl ?_
          exact z_iret d_m_size_53 rfl (Nat.le_refl 0) (Nat.le_refl 0) (by rw [show (dec m).length + 3 = 4 by (simp only [dec]; (repeat' split) <;> simp <;> omega)] at hQ; exact hQ)
      · refine z_iconst (v := nI 0) d_m_size_15 16 rfl rfl ?_
        refine z_goto (tgt := 53) d_m_size_16 rfl ?_
        exact z_iret d_m_size_53 rfl (Nat.le_refl 0) (Nat.le_refl 0) (by rw [show szW k a b = 0 by simp [szW, cardW, h1, h12]] at hQ; exact hQ)
theorem c_m_card (k a b : Int32) {dr : List Nat} (hr : slotP va 64 dr)
    (hQ0 : (cardW k a b (dg 7 dr) = none ∨ ∃ L, cardW k a b (dg 7 dr) = some L ∧ 240 < dr.length + L.length) → Q (some (.int (-1))) (zmod D o hp va vf))
    (hQ : ∀ (L : List Nat) (va' : Nat → Nat → Int32), cardW k a b (dg 7 dr) = some L → dr.length + L.length ≤ 240 → sk 64 va va' → slotP va' 64 (dr ++ L) → Q (some (.int (nI (dr ++ L).length))) (zmod D o hp va' vf)) :
    Runs l D M_m_card [.ref o, .int k, .int a, .int b] (zmod D o hp va vf) 0 0 Q := by
  refine Runs.of rfl rfl (Nat.le_of_ble_eq_true rfl) ?_
  have hsz := szW_le k a b
  have hl := hr.2.2
  have hd7 := dg7 dr
  refine z_iload_n d_m_card_0 1 rfl rfl rfl ?_
  refine z_iload_n d_m_card_1 2 rfl rfl rfl ?_
  refine z_iload_n d_m_card_2 3 rfl rfl rfl ?_
  refine zm_cS1 d_m_card_3 6 rfl ms_m_size kl_m_118 (by decide) (fun Q' h => c_m_size _ _ _ h) rfl rfl (Nat.le_of_ble_eq_true rfl) ?_
  refine z_ist4 d_m_card_6 8 rfl rfl ?_
  refine z_iload d_m_card_8 10 rfl rfl ?_
  refine z_if_eqN (tgt := 29) d_m_card_10 13 rfl rfl (by omega) (fun h10 => ?_) (fun h10 => ?_)
  · refine z_iconst (v := -1) d_m_card_29 30 rfl (by decide) ?_
    exact z_iret d_m_card_30 rfl (Nat.le_refl 0) (Nat.le_refl 0) (hQ0 (Or.inl (szW_none _ h10)))
  · obtain ⟨L, hL, hLl⟩ := szW_some (dg 7 dr) h10
    refine z_aload_n d_m_card_13 14 rfl rfl rfl ?_
    refine zm_getA 1 d_m_card_14 17 rfl f_m_13 rfl ?_
    refine z_bipush (v := nI 64) d_m_card_17 19 rfl rfl ?_
    refine zm_iald d_m_card_19 20 rfl (by decide) rfl (by simp only [zln]; omega) ?_
    rw [hr.2.1]
    refine z_iload d_m_card_20 22 rfl rfl ?_
    first | refine z_iaddN d_m_card_22 23 rfl ?_ | refine z_iadd d_m_card_22 23 rfl ?_
    refine z_sipush (v := nI 240) d_m_card_23 26 rfl rfl ?_
    refine z_icmp_leN (tgt := 31) d_m_card_26 29 rfl rfl (by omega) (by omega) (fun h26 => ?_) (fun h26 => ?_)
    · refine z_aload_n d_m_card_31 32 rfl rfl rfl ?_
      refine z_bipush (v := nI 7) d_m_card_32 34 rfl rfl ?_
      refine z_bipush (v := nI 64) d_m_card_34 36 rfl rfl ?_
      refine z_aload_n d_m_card_36 37 rfl rfl rfl ?_
      refine zm_getA 1 d_m_card_37 40 rfl f_m_13 rfl ?_
      refine z_bipush (v := nI 64) d_m_card_40 42 rfl rfl ?_
      refine zm_iald d_m_card_42 43 rfl (by decide) rfl (by simp only [zln]; omega) ?_
      rw [hr.2.1]
      refine zm_cV1 d_m_card_43 46 rfl mv_m_digest kl_m_94 (by decide) (fun Q' h => c_m_digest 7 64 _ hr.1 (Nat.le_refl _) (by decide) hl (by decide) h) rfl rfl (Nat.le_of_ble_eq_true rfl) ?_
      rw [List.take_length]
      rw [← hLl] at h26
      generalize hsz9 : szW k a b = n9
      clear hsz hLl h10 hsz9
      have hlt : ltW k < 256 := by unfold ltW; (repeat' split) <;> decide
      have s_va := hr
      refine z_ist5 d_m_card_46 48 rfl rfl ?_
      refine z_aload_n d_m_card_48 49 rfl rfl rfl ?_
      refine z_bipush (v := nI 64) d_m_card_49 51 rfl rfl ?_
      refine z_iload_n d_m_card_51 52 rfl rfl rfl ?_
      refine zm_cS1 d_m_card_52 55 rfl ms_m_letterOf kl_m_121 (by decide) (fun Q' h => c_m_letterOf _ h) rfl rfl (Nat.le_of_ble_eq_true rfl) ?_
      have hL3 : 3 ≤ L.length := by
        unfold cardW dec at hL
        (repeat' split at hL) <;> simp at hL <;> (subst hL; simp [nmB])
      refine zm_cVv (fun aa f => vf = f ∧ sk 64 va aa ∧ slotP aa 64 (dr ++ [ltW k])) d_m_card_55 58 rfl mv_m_write kl_m_111 (by decide) (fun Q' h => c_m_write 64 (ltW k) s_va (by decide) (by first | omega | (simp; omega)) (by omega) (fun aa h1 h2 => h _ _ ⟨rfl, h1, h2⟩)) rfl rfl (Nat.le_of_ble_eq_true rfl) ?_; rintro x1 _ ⟨rfl, k_x1, s_x1⟩
      refine z_aload_n d_m_card_58 59 rfl rfl rfl ?_
      refine z_bipush (v := nI 64) d_m_card_59 61 rfl rfl ?_
      refine z_bipush (v := nI 32) d_m_card_61 63 rfl rfl ?_
      refine zm_cVv (fun aa f => vf = f ∧ sk 64 x1 aa ∧ slotP aa 64 (dr ++ [ltW k] ++ [32])) d_m_card_63 66 rfl mv_m_write kl_m_111 (by decide) (fun Q' h => c_m_write 64 (32) s_x1 (by decide) (by first | omega | (simp; omega)) (by omega) (fun aa h1 h2 => h _ _ ⟨rfl, h1, h2⟩)) rfl rfl (Nat.le_of_ble_eq_true rfl) ?_; rintro x2 _ ⟨rfl, k_x2, s_x2⟩
      have kk := k_x1.trans k_x2
      rw [List.append_assoc] at s_x2
      simp only [List.singleton_append] at s_x2
      have tail : ∀ (x : Nat → Nat → Int32) (B : List Nat) (z : Option Value), sk 64 va x → slotP x 64 (dr ++ B) → B ++ [10] = L → Z l D M_m_card 0 0 Q (zmod D o hp x vf) 0 0 274 [some (.ref o), some (.int k), some (.int a), some (.int b), some (.int (nI n9)), some (.int (nI (dg 7 dr))), z] [] := by
        intro x B z hk s_x hB
        subst hB
        simp at h26
        refine z_aload_n d_m_card_274 275 rfl rfl rfl ?_
        refine z_bipush (v := nI 64) d_m_card_275 277 rfl rfl ?_
        refine z_bipush (v := nI 10) d_m_card_277 279 rfl rfl ?_
        refine zm_cVv (fun aa f => vf = f ∧ sk 64 x aa ∧ slotP aa 64 (dr ++ B ++ [10])) d_m_card_279 282 rfl mv_m_write kl_m_111 (by decide) (fun Q' h => c_m_write 64 (10) s_x (by decide) (by first | omega | (simp; omega)) (by omega) (fun aa h1 h2 => h _ _ ⟨rfl, h1, h2⟩)) rfl rfl (Nat.le_of_ble_eq_true rfl) ?_; rintro y _ ⟨rfl, k_y, s_y⟩
        rw [List.append_assoc] at s_y
        refine z_aload_n d_m_card_282 283 rfl rfl rfl ?_
        refine zm_getA 1 d_m_card_283 286 rfl f_m_13 rfl ?_
        refine z_bipush (v := nI 64) d_m_card_286 288 rfl rfl ?_
        refine zm_iald d_m_card_288 289 rfl (by decide) rfl (by simp only [zln]; omega) ?_
        rw [s_y.2.1]
        exact z_iret d_m_card_289 rfl (Nat.le_refl 0) (Nat.le_refl 0) (hQ _ _ hL (by simpa using h26) (hk.trans k_y) s_y)
      refine z_iload_n d_m_card_66 67 rfl rfl rfl ?_
      refine z_if_ne (tgt := 122) d_m_card_67 70 rfl rfl (fun h67 => ?_) (fun h67 => ?_)
      · refine z_iload_n d_m_card_122 123 rfl rfl rfl ?_
        refine z_iconst (v := nI 1) d_m_card_123 124 rfl rfl ?_
        refine z_icmp_ne (tgt := 155) d_m_card_124 127 rfl rfl (fun h124 => ?_) (fun h124 => ?_)
        · refine z_iload_n d_m_card_155 156 rfl rfl rfl ?_
          refine z_iconst (v := nI 5) d_m_card_156 157 rfl rfl ?_
          refine z_icmp_ne (tgt := 231) d_m_card_157 160 rfl rfl (fun h157 => ?_) (fun h157 => ?_)
          · -- M, R, P, Z
            have go : ∀ (n : Nat), n < 16777216 → (k = nI 3 → a = nI n) → dr.length + 9 ≤ 240 → ((¬ k = nI 3 ∨ b = -1) → ltW k :: 32 :: (nmB n ++ [10]) = L) → (k = nI 3 → ¬ b = -1 → isNm b = true ∧ ltW k :: 32 :: (nmB n ++ 32 :: (nmB (toN b) ++ [10])) = L) → Z l D M_m_card 0 0 Q (zmod D o hp x2 vf) 0 0 246 [some (.ref o), some (.int k), some (.int a), some (.int b), some (.int (nI n9)), some (.int (nI (dg 7 dr))), none] [.int (nI n), .int (nI 64), .ref o] := by
              intro n hn hna h9 c1 c2
              refine zm_cVv (fun aa f => vf = f ∧ sk 64 x2 aa ∧ slotP aa 64 (dr ++ (ltW k :: [32]) ++ nmB n)) d_m_card_246 249 rfl mv_m_writeName kl_m_124 (by decide) (fun Q' h => c_m_writeName 64 n s_x2 (by decide) (by first | omega | (simp; omega)) (by omega) (fun aa h1 h2 => h _ _ ⟨rfl, h1, h2⟩)) rfl rfl (Nat.le_of_ble_eq_true rfl) ?_; rintro x3 _ ⟨rfl, k_x3, s_x3⟩
              refine z_iload_n d_m_card_249 250 rfl rfl rfl ?_
              refine z_iconst (v := nI 3) d_m_card_250 251 rfl rfl ?_
              refine z_icmp_ne (tgt := 274) d_m_card_251 254 rfl rfl (fun h251 => ?_) (fun h251 => ?_)
              · exact tail x3 (ltW k :: 32 :: nmB n) none (kk.trans k_x3) (by simpa using s_x3) (by rw [← c1 (Or.inl h251)]; simp)
              · refine z_iload_n d_m_card_254 255 rfl rfl rfl ?_
                refine z_iconst (v := -1) d_m_card_255 256 rfl (by decide) ?_
                refine z_icmp_eq (tgt := 274) d_m_card_256 259 rfl rfl (fun h256 => ?_) (fun h256 => ?_)
                · exact tail x3 (ltW k :: 32 :: nmB n) none (kk.trans k_x3) (by simpa using s_x3) (by rw [← c1 (Or.inr h256)]; simp)
                · obtain ⟨hb, hL2⟩ := c2 h251 h256
                  obtain ⟨b0, b1, b2⟩ := isNm_to hb
                  have hl2 : dr.length + 16 ≤ 240 := by rw [← hL2] at h26; simpa [nmB] using h26
                  generalize toN b = m at b1 b2 hL2
                  subst b1
                  have s_x3 : slotP x3 64 (dr ++ (ltW k :: 32 :: nmB n)) := by simpa using s_x3
                  refine z_aload_n d_m_card_259 260 rfl rfl rfl ?_
                  refine z_bipush (v := nI 64) d_m_card_260 262 rfl rfl ?_
                  refine z_bipush (v := nI 32) d_m_card_262 264 rfl rfl ?_
                  refine zm_cVv (fun aa f => vf = f ∧ sk 64 x3 aa ∧ slotP aa 64 (dr ++ (ltW k :: 32 :: nmB n) ++ [32])) d_m_card_264 267 rfl mv_m_write kl_m_111 (by decide) (fun Q' h => c_m_write 64 (32) s_x3 (by decide) (by simp [nmB]; omega) (by omega) (fun aa h1 h2 => h _ _ ⟨rfl, h1, h2⟩)) rfl rfl (Nat.le_of_ble_eq_true rfl) ?_; rintro x4 _ ⟨rfl, k_x4, s_x4⟩
                  refine z_aload_n d_m_card_267 268 rfl rfl rfl ?_
                  refine z_bipush (v := nI 64) d_m_card_268 270 rfl rfl ?_
                  refine z_iload_n d_m_card_270 271 rfl rfl rfl ?_
                  refine zm_cVv (fun aa f => vf = f ∧ sk 64 x4 aa ∧ slotP aa 64 (dr ++ (ltW k :: 32 :: nmB n) ++ [32] ++ nmB m)) d_m_card_271 274 rfl mv_m_writeName kl_m_124 (by decide) (fun Q' h => c_m_writeName 64 m s_x4 (by decide) (by simp [nmB]; omega) (by omega) (fun aa h1 h2 => h _ _ ⟨rfl, h1, h2⟩)) rfl rfl (Nat.le_of_ble_eq_true rfl) ?_; rintro x5 _ ⟨rfl, k_x5, s_x5⟩
                  exact tail x5 (ltW k :: 32 :: (nmB n ++ 32 :: nmB m)) none (((kk.trans k_x3).trans k_x4).trans k_x5) (by simpa using s_x5) (by rw [← hL2]; simp)
            refine z_aload_n d_m_card_231 232 rfl rfl rfl ?_
            refine z_bipush (v := nI 64) d_m_card_232 234 rfl rfl ?_
            refine z_iload_n d_m_card_234 235 rfl rfl rfl ?_
            refine z_bipush (v := nI 6) d_m_card_235 237 rfl rfl ?_
            refine z_icmp_ne (tgt := 245) d_m_card_237 240 rfl rfl (fun h237 => ?_) (fun h237 => ?_)
            · -- M, R, P
              have hk6 : ¬ k = nI 6 := h237
              refine z_iload_n d_m_card_245 246 rfl rfl rfl ?_
              have h3 : isNm a = true := by
                unfold cardW at hL
                (repeat' split at hL) <;> first | assumption | (simp at hL; done) | (exfalso; simp_all; done)
              have hL8 : 9 ≤ L.length := by
                unfold cardW at hL
                (repeat' split at hL) <;> simp at hL <;> first | (subst hL; simp [nmB]; done) | (exfalso; simp_all; done)
              have c1 : (¬ k = nI 3 ∨ b = -1) → ltW k :: 32 :: (nmB (toN a) ++ [10]) = L := by
                intro hc
                simp only [cardW, h67, h124, h157, hk6, h3, if_true, if_false, ite_true, ite_false] at hL
                simp only [ltW, h67, h124, h157, if_true, if_false, ite_true, ite_false]
                (repeat' split at hL) <;> simp_all [nI_eq, nI_z]
              have c2 : k = nI 3 → ¬ b = -1 → isNm b = true ∧ ltW k :: 32 :: (nmB (toN a) ++ 32 :: (nmB (toN b) ++ [10])) = L := by
                intro hc hb
                subst hc
                simp only [cardW, h3, hb, if_true, if_false, ite_true, ite_false, show ¬ (nI 3 : Int32) = 0 by decide, show ¬ (nI 3 : Int32) = nI 1 by decide, show ¬ (nI 3 : Int32) = nI 2 by decide, show ¬ (nI 3 : Int32) = nI 4 by decide] at hL
                split at hL
                next hq => cases hL; exact ⟨hq.1, by simp [ltW, show ¬ (nI 3 : Int32) = 0 by decide, show ¬ (nI 3 : Int32) = nI 1 by decide, show ¬ (nI 3 : Int32) = nI 2 by decide]⟩
                next => cases hL
              obtain ⟨a0, a1, a2⟩ := isNm_to h3
              have r := go (toN a) a2 (fun _ => a1) (by omega) c1 c2
              rw [← a1] at r
              exact r
            · -- Z
              refine z_iload d_m_card_240 242 rfl rfl ?_
              refine z_goto (tgt := 246) d_m_card_242 rfl ?_
              subst h237
              simp [cardW, show ¬ (nI 6 : Int32) = 0 by decide, show ¬ (nI 6 : Int32) = nI 1 by decide, show ¬ (nI 6 : Int32) = nI 2 by decide, show ¬ (nI 6 : Int32) = nI 4 by decide, show ¬ (nI 6 : Int32) = nI 3 by decide, show ¬ (nI 6 : Int32) = nI 5 by decide] at hL
              subst hL
              exact go (dg 7 dr) (by omega) (fun h => absurd h (by decide)) (by simp [nmB] at h26; omega) (fun _ => by simp [ltW, show ¬ (nI 6 : Int32) = 0 by decide, show ¬ (nI 6 : Int32) = nI 1 by decide, show ¬ (nI 6 : Int32) = nI 2 by decide, show ¬ (nI 6 : Int32) = nI 4 by decide, show ¬ (nI 6 : Int32) = nI 3 by decide, show ¬ (nI 6 : Int32) = nI 5 by decide]) (fun h => absurd h (by decide))
          · -- T
            subst h157
            have hlt5 : ltW (nI 5) = 84 := by decide
            rw [hlt5] at s_x2
            have hT : ¬ a < -10 ∧ a ≤ nI 9 ∧ (b = -1 ∨ isNm b = true) := by
              simp only [cardW, show ¬ (nI 5 : Int32) = 0 by decide, show ¬ (nI 5 : Int32) = nI 1 by decide, show ¬ (nI 5 : Int32) = nI 2 by decide, show ¬ (nI 5 : Int32) = nI 4 by decide, show ¬ (nI 5 : Int32) = nI 3 by decide, if_true, if_false, ite_true, ite_false] at hL
              split at hL
              next hq =>
                refine ⟨hq.1, hq.2, ?_⟩
                split at hL
                next hb => exact Or.inl hb
                next =>
                  split at hL
                  next hb => exact Or.inr hb
                  next => cases hL
              next => cases hL
            obtain ⟨ta, tb, tc⟩ := hT
            have hLT : L = if b = -1 then [84, 32, sgn a, 48 + dg1 a, 32, 42, 10] else [84, 32, sgn a, 48 + dg1 a, 32] ++ nmB (toN b) ++ [10] := by
              simp only [cardW, show ¬ (nI 5 : Int32) = 0 by decide, show ¬ (nI 5 : Int32) = nI 1 by decide, show ¬ (nI 5 : Int32) = nI 2 by decide, show ¬ (nI 5 : Int32) = nI 4 by decide, show ¬ (nI 5 : Int32) = nI 3 by decide, if_true, if_false, ite_true, ite_false] at hL
              rw [if_pos ⟨ta, tb⟩] at hL
              split
              next hb => rw [if_pos hb] at hL; cases hL; rfl
              next hb => rw [if_neg hb, if_pos (tc.resolve_left hb)] at hL; cases hL; rfl
            have hL7 : 7 ≤ L.length := by rw [hLT]; split <;> simp [nmB]
            obtain ⟨m, hm, hsg, hdg⟩ : ∃ m, m ≤ 9 ∧ m = dg1 a ∧ (if a < 0 then -1 - a else a) = nI m := by
              by_cases hn : a < 0
              · have : ¬ (-1 - a) < 0 ∧ (-1 - a) ≤ nI 9 := by
                  have h1 := Int32.lt_iff_toInt_lt.mp hn
                  have h2 : ¬ a.toInt < (-10 : Int32).toInt := fun q => ta (Int32.lt_iff_toInt_lt.mpr q)
                  have h3 : (-1 - a : Int32).toInt = -1 - a.toInt := by
                    rw [Int32.toInt_sub, show (-1 : Int32).toInt = -1 by decide]
                    rw [show ((-10 : Int32)).toInt = -10 by decide] at h2
                    rw [show ((0 : Int32)).toInt = 0 by decide] at h1
                    rw [Int.bmod_eq_of_le (by omega) (by omega)]
                  rw [show ((-10 : Int32)).toInt = -10 by decide] at h2
                  rw [show ((0 : Int32)).toInt = 0 by decide] at h1
                  constructor
                  · intro q
                    have := Int32.lt_iff_toInt_lt.mp q
                    rw [h3, show ((0 : Int32)).toInt = 0 by decide] at this
                    omega
                  · apply Int32.le_iff_toInt_le.mpr
                    rw [h3, show (nI 9 : Int32).toInt = 9 by decide]
                    omega
                obtain ⟨e, he⟩ := nI_toN this.1
                refine ⟨toN (-1 - a), ?_, by simp [dg1, hn], by rw [if_pos hn]; exact e⟩
                have h9 := this.2
                rw [e] at h9
                exact (nI_leI he (by decide)).1 h9
              · obtain ⟨e, he⟩ := nI_toN hn
                refine ⟨toN a, ?_, by simp [dg1, hn], by rw [if_neg hn]; exact e⟩
                rw [e] at tb
                exact (nI_leI he (by decide)).1 tb
            rw [← hsg] at hLT
            have s_x2 : slotP x2 64 (dr ++ [84, 32]) := by simpa using s_x2
            have go : ∀ z : Option Value, Z l D M_m_card 0 0 Q (zmod D o hp x2 vf) 0 0 174 [some (.ref o), some (.int (nI 5)), some (.int a), some (.int b), some (.int (nI n9)), some (.int (nI (dg 7 dr))), none] [.int (nI (sgn a)), .int (nI 64), .ref o] := by
              intro z
              have hs2 : sgn a < 256 := by unfold sgn; split <;> decide
              refine zm_cVv (fun aa f => vf = f ∧ sk 64 x2 aa ∧ slotP aa 64 (dr ++ [84, 32] ++ [sgn a])) d_m_card_174 177 rfl mv_m_write kl_m_111 (by decide) (fun Q' h => c_m_write 64 (sgn a) s_x2 (by decide) (by first | omega | (simp; omega)) (by omega) (fun aa h1 h2 => h _ _ ⟨rfl, h1, h2⟩)) rfl rfl (Nat.le_of_ble_eq_true rfl) ?_; rintro x3 _ ⟨rfl, k_x3, s_x3⟩
              refine z_aload_n d_m_card_177 178 rfl rfl rfl ?_
              refine z_bipush (v := nI 64) d_m_card_178 180 rfl rfl ?_
              refine z_bipush (v := nI 48) d_m_card_180 182 rfl rfl ?_
              refine z_iload_n d_m_card_182 183 rfl rfl rfl ?_
              have go2 : Z l D M_m_card 0 0 Q (zmod D o hp x3 vf) 0 0 193 [some (.ref o), some (.int (nI 5)), some (.int a), some (.int b), some (.int (nI n9)), some (.int (nI (dg 7 dr))), none] [.int (nI m), .int (nI 48), .int (nI 64), .ref o] := by
                first | refine z_iaddN d_m_card_193 194 rfl ?_ | refine z_iadd d_m_card_193 194 rfl ?_
                refine zm_cVv (fun aa f => vf = f ∧ sk 64 x3 aa ∧ slotP aa 64 (dr ++ [84, 32] ++ [sgn a] ++ [48 + m])) d_m_card_194 197 rfl mv_m_write kl_m_111 (by decide) (fun Q' h => c_m_write 64 (48 + m) s_x3 (by decide) (by first | omega | (simp; omega)) (by omega) (fun aa h1 h2 => h _ _ ⟨rfl, h1, h2⟩)) rfl rfl (Nat.le_of_ble_eq_true rfl) ?_; rintro x4 _ ⟨rfl, k_x4, s_x4⟩
                refine z_aload_n d_m_card_197 198 rfl rfl rfl ?_
                refine z_bipush (v := nI 64) d_m_card_198 200 rfl rfl ?_
                refine z_bipush (v := nI 32) d_m_card_200 202 rfl rfl ?_
                refine zm_cVv (fun aa f => vf = f ∧ sk 64 x4 aa ∧ slotP aa 64 (dr ++ [84, 32] ++ [sgn a] ++ [48 + m] ++ [32])) d_m_card_202 205 rfl mv_m_write kl_m_111 (by decide) (fun Q' h => c_m_write 64 (32) s_x4 (by decide) (by first | omega | (simp; omega)) (by omega) (fun aa h1 h2 => h _ _ ⟨rfl, h1, h2⟩)) rfl rfl (Nat.le_of_ble_eq_true rfl) ?_; rintro x5 _ ⟨rfl, k_x5, s_x5⟩
                have ka := ((kk.trans k_x3).trans k_x4).trans k_x5
                refine z_iload_n d_m_card_205 206 rfl rfl rfl ?_
                refine z_iconst (v := -1) d_m_card_206 207 rfl (by decide) ?_
                refine z_icmp_ne (tgt := 221) d_m_card_207 210 rfl rfl (fun h207 => ?_) (fun h207 => ?_)
                · rw [if_neg h207] at hLT
                  obtain ⟨b0, b1, b2⟩ := isNm_to (tc.resolve_left h207)
                  have hl2 : dr.length + 12 ≤ 240 := by rw [hLT] at h26; simpa [nmB] using h26
                  generalize toN b = q at b1 b2 hLT
                  subst b1
                  refine z_aload_n d_m_card_221 222 rfl rfl rfl ?_
                  refine z_bipush (v := nI 64) d_m_card_222 224 rfl rfl ?_
                  refine z_iload_n d_m_card_224 225 rfl rfl rfl ?_
                  refine zm_cVv (fun aa f => vf = f ∧ sk 64 x5 aa ∧ slotP aa 64 (dr ++ [84, 32] ++ [sgn a] ++ [48 + m] ++ [32] ++ nmB q)) d_m_card_225 228 rfl mv_m_writeName kl_m_124 (by decide) (fun Q' h => c_m_writeName 64 q s_x5 (by decide) (by first | omega | (simp; omega)) (by omega) (fun aa h1 h2 => h _ _ ⟨rfl, h1, h2⟩)) rfl rfl (Nat.le_of_ble_eq_true rfl) ?_; rintro x6 _ ⟨rfl, k_x6, s_x6⟩
                  refine z_goto (tgt := 274) d_m_card_228 rfl ?_
                  exact tail x6 ([84, 32, sgn a, 48 + m, 32] ++ nmB q) none (ka.trans k_x6) (by simpa using s_x6) (by rw [hLT])
                · rw [if_pos h207] at hLT
                  refine z_aload_n d_m_card_210 211 rfl rfl rfl ?_
                  refine z_bipush (v := nI 64) d_m_card_211 213 rfl rfl ?_
                  refine z_bipush (v := nI 42) d_m_card_213 215 rfl rfl ?_
                  refine zm_cVv (fun aa f => vf = f ∧ sk 64 x5 aa ∧ slotP aa 64 (dr ++ [84, 32] ++ [sgn a] ++ [48 + m] ++ [32] ++ [42])) d_m_card_215 218 rfl mv_m_write kl_m_111 (by decide) (fun Q' h => c_m_write 64 (42) s_x5 (by decide) (by first | omega | (simp; omega)) (by omega) (fun aa h1 h2 => h _ _ ⟨rfl, h1, h2⟩)) rfl rfl (Nat.le_of_ble_eq_true rfl) ?_; rintro x6 _ ⟨rfl, k_x6, s_x6⟩
                  refine z_goto (tgt := 274) d_m_card_218 rfl ?_
                  exact tail x6 [84, 32, sgn a, 48 + m, 32, 42] none (ka.trans k_x6) (by simpa using s_x6) (by rw [hLT]; rfl)
              refine z_if_lt (tgt := 190) d_m_card_183 186 rfl rfl (fun h183 => ?_) (fun h183 => ?_)
              · refine z_iconst (v := -1) d_m_card_190 191 rfl (by decide) ?_
                refine z_iload_n d_m_card_191 192 rfl rfl rfl ?_
                refine z_isub d_m_card_192 193 rfl ?_
                rw [if_pos h183] at hdg
                rw [hdg]
                exact go2
              · refine z_iload_n d_m_card_186 187 rfl rfl rfl ?_
                refine z_goto (tgt := 193) d_m_card_187 rfl ?_
                rw [if_neg h183] at hdg
                rw [hdg] at go2 ⊢
                exact go2
            refine z_aload_n d_m_card_160 161 rfl rfl rfl ?_
            refine z_bipush (v := nI 64) d_m_card_161 163 rfl rfl ?_
            refine z_iload_n d_m_card_163 164 rfl rfl rfl ?_
            refine z_if_lt (tgt := 172) d_m_card_164 167 rfl rfl (fun h164 => ?_) (fun h164 => ?_)
            · refine z_bipush (v := nI 45) d_m_card_172 174 rfl rfl ?_
              have := go none
              rw [show sgn a = 45 by simp [sgn, h164]] at this
              exact this
            · refine z_bipush (v := nI 43) d_m_card_167 169 rfl rfl ?_
              refine z_goto (tgt := 174) d_m_card_169 rfl ?_
              have := go none
              rw [show sgn a = 43 by simp [sgn, h164]] at this
              exact this
        · -- F
          subst h124
          have hF : ¬ a < 0 ∧ ¬ nI 9 < a ∧ isNm b = true := by
            simp only [cardW, show ¬ (nI 1 : Int32) = 0 by decide, if_true, if_false, ite_true, ite_false] at hL
            split at hL
            next hq => exact hq
            next => cases hL
          have hLF : L = [70, 32, 48 + toN a, 32] ++ nmB (toN b) ++ [10] := by
            simp only [cardW, show ¬ (nI 1 : Int32) = 0 by decide, if_true, if_false, ite_true, ite_false] at hL
            rw [if_pos hF] at hL
            cases hL
            rfl
          obtain ⟨a1, a2⟩ := nI_toN hF.1
          have a3 : toN a ≤ 9 := by
            have := hF.2.1
            rw [a1] at this
            have h9 : ¬ 9 < toN a := fun q => this ((nI_ltI (by decide) a2).2 q)
            omega
          obtain ⟨b0, b1, b2⟩ := isNm_to hF.2.2
          rw [show ltW (nI 1) = 70 by decide] at s_x2
          have s_x2 : slotP x2 64 (dr ++ [70, 32]) := by simpa using s_x2
          clear hF hL3
          generalize toN a = m at a1 a2 a3 hLF
          generalize toN b = q at b1 b2 hLF
          have hl2 : dr.length + 11 ≤ 240 := by rw [hLF] at h26; simpa [nmB] using h26
          subst a1
          subst b1
          refine z_aload_n d_m_card_127 128 rfl rfl rfl ?_
          refine z_bipush (v := nI 64) d_m_card_128 130 rfl rfl ?_
          refine z_bipush (v := nI 48) d_m_card_130 132 rfl rfl ?_
          refine z_iload_n d_m_card_132 133 rfl rfl rfl ?_
          first | refine z_iaddN d_m_card_133 134 rfl ?_ | refine z_iadd d_m_card_133 134 rfl ?_
          refine zm_cVv (fun aa f => vf = f ∧ sk 64 x2 aa ∧ slotP aa 64 (dr ++ [70, 32] ++ [48 + m])) d_m_card_134 137 rfl mv_m_write kl_m_111 (by decide) (fun Q' h => c_m_write 64 (48 + m) s_x2 (by decide) (by first | omega | (simp; omega)) (by omega) (fun aa h1 h2 => h _ _ ⟨rfl, h1, h2⟩)) rfl rfl (Nat.le_of_ble_eq_true rfl) ?_; rintro x3 _ ⟨rfl, k_x3, s_x3⟩
          refine z_aload_n d_m_card_137 138 rfl rfl rfl ?_
          refine z_bipush (v := nI 64) d_m_card_138 140 rfl rfl ?_
          refine z_bipush (v := nI 32) d_m_card_140 142 rfl rfl ?_
          refine zm_cVv (fun aa f => vf = f ∧ sk 64 x3 aa ∧ slotP aa 64 (dr ++ [70, 32] ++ [48 + m] ++ [32])) d_m_card_142 145 rfl mv_m_write kl_m_111 (by decide) (fun Q' h => c_m_write 64 (32) s_x3 (by decide) (by first | omega | (simp; omega)) (by omega) (fun aa h1 h2 => h _ _ ⟨rfl, h1, h2⟩)) rfl rfl (Nat.le_of_ble_eq_true rfl) ?_; rintro x4 _ ⟨rfl, k_x4, s_x4⟩
          refine z_aload_n d_m_card_145 146 rfl rfl rfl ?_
          refine z_bipush (v := nI 64) d_m_card_146 148 rfl rfl ?_
          refine z_iload_n d_m_card_148 149 rfl rfl rfl ?_
          refine zm_cVv (fun aa f => vf = f ∧ sk 64 x4 aa ∧ slotP aa 64 (dr ++ [70, 32] ++ [48 + m] ++ [32] ++ nmB q)) d_m_card_149 152 rfl mv_m_writeName kl_m_124 (by decide) (fun Q' h => c_m_writeName 64 q s_x4 (by decide) (by first | omega | (simp; omega)) (by omega) (fun aa h1 h2 => h _ _ ⟨rfl, h1, h2⟩)) rfl rfl (Nat.le_of_ble_eq_true rfl) ?_; rintro x5 _ ⟨rfl, k_x5, s_x5⟩
          refine z_goto (tgt := 274) d_m_card_152 rfl ?_
          exact tail x5 ([70, 32, 48 + m, 32] ++ nmB q) none (((kk.trans k_x3).trans k_x4).trans k_x5) (by simpa using s_x5) (by rw [hLF])
      · -- D
        have hD : ¬ a < 0 ∧ a ≤ nI 9999 := by
          simp only [cardW, if_pos h67] at hL
          split at hL
          next hq => exact hq
          next => cases hL
        have hLD : L = [68, 32] ++ dec (toN a) ++ [10] := by
          simp only [cardW, if_pos h67] at hL
          rw [if_pos hD] at hL
          cases hL
          rfl
        obtain ⟨a1, a2⟩ := nI_toN hD.1
        have a3 : toN a ≤ 9999 := by
          have := hD.2
          rw [a1] at this
          exact (nI_leI a2 (by decide)).1 this
        rw [show ltW k = 68 by simp [ltW, h67]] at s_x2
        have s_x2 : slotP x2 64 (dr ++ ([68, 32] ++ [])) := by simpa using s_x2
        clear hD hL3
        generalize toN a = m at a1 a2 a3 hLD
        subst a1
        refine z_sipush (v := nI 1000) d_m_card_70 73 rfl rfl ?_
        refine z_ist6 d_m_card_73 75 rfl rfl ?_
        -- one figure
        have step : ∀ (p p' : Nat) (x : Nat → Nat → Int32) (B : List Nat), 0 < p → p ≤ 1000 → p / 10 = p' → sk 64 va x → slotP x 64 (dr ++ ([68, 32] ++ B)) → B.length ≤ 3 → (∃ T, dec m = B ++ ((if p ≤ m ∨ p = 1 then [48 + m / p % 10] else []) ++ T)) → (∀ x' , sk 64 va x' → slotP x' 64 (dr ++ ([68, 32] ++ (B ++ (if p ≤ m ∨ p = 1 then [48 + m / p % 10] else [])))) → Z l D M_m_card 0 0 Q (zmod D o hp x' vf) 0 0 75 [some (.ref o), some (.int k), some (.int (nI m)), some (.int b), some (.int (nI n9)), some (.int (nI (dg 7 dr))), some (.int (nI p'))] []) → Z l D M_m_card 0 0 Q (zmod D o hp x vf) 0 0 75 [some (.ref o), some (.int k), some (.int (nI m)), some (.int b), some (.int (nI n9)), some (.int (nI (dg 7 dr))), some (.int (nI p))] [] := by
          intro p p' x B hp0 hp1 hpp hk s_x hB hT next
          have wr : (p ≤ m ∨ p = 1) → Z l D M_m_card 0 0 Q (zmod D o hp x vf) 0 0 93 [some (.ref o), some (.int k), some (.int (nI m)), some (.int b), some (.int (nI n9)), some (.int (nI (dg 7 dr))), some (.int (nI p))] [] := by
            intro hc
            rw [if_pos hc] at next
            obtain ⟨T, hT⟩ := hT
            rw [if_pos hc] at hT
            have hroom : dr.length + B.length + 4 ≤ 240 := by
              rw [hLD, hT] at h26
              simp at h26
              omega
            have hdiv : m / p ≤ m := Nat.div_le_self _ _
            refine z_aload_n d_m_card_93 94 rfl rfl rfl ?_
            refine z_bipush (v := nI 64) d_m_card_94 96 rfl rfl ?_
            refine z_bipush (v := nI 48) d_m_card_96 98 rfl rfl ?_
            refine z_iload_n d_m_card_98 99 rfl rfl rfl ?_
            refine z_iload d_m_card_99 101 rfl rfl ?_
            refine z_idivN d_m_card_101 102 rfl (by omega) (by omega) (by omega) ?_
            refine z_bipush (v := nI 10) d_m_card_102 104 rfl rfl ?_
            refine z_iremN d_m_card_104 105 rfl (by omega) (by omega) (by omega) ?_
            first | refine z_iaddN d_m_card_105 106 rfl ?_ | refine z_iadd d_m_card_105 106 rfl ?_
            refine zm_cVv (fun aa f => vf = f ∧ sk 64 x aa ∧ slotP aa 64 (dr ++ ([68, 32] ++ B) ++ [48 + m / p % 10])) d_m_card_106 109 rfl mv_m_write kl_m_111 (by decide) (fun Q' h => c_m_write 64 (48 + m / p % 10) s_x (by decide) (by first | omega | (simp; omega)) (by omega) (fun aa h1 h2 => h _ _ ⟨rfl, h1, h2⟩)) rfl rfl (Nat.le_of_ble_eq_true rfl) ?_; rintro y _ ⟨rfl, k_y, s_y⟩
            rw [List.append_assoc, List.append_assoc] at s_y
            refine z_iload d_m_card_109 111 rfl rfl ?_
            refine z_bipush (v := nI 10) d_m_card_111 113 rfl rfl ?_
            refine z_idivN d_m_card_113 114 rfl (by omega) (by omega) (by omega) ?_
            rw [hpp]
            refine z_ist6 d_m_card_114 116 rfl rfl ?_
            refine z_goto (tgt := 75) d_m_card_116 rfl ?_
            exact next y (hk.trans k_y) s_y
          refine z_iload d_m_card_75 77 rfl rfl ?_
          refine z_iconst (v := nI 1) d_m_card_77 78 rfl rfl ?_
          refine z_icmp_ltN (tgt := 119) d_m_card_78 81 rfl rfl (by omega) (by omega) (fun h78 => ?_) (fun h78 => ?_)
          · omega
          · refine z_iload_n d_m_card_81 82 rfl rfl rfl ?_
            refine z_iload d_m_card_82 84 rfl rfl ?_
            refine z_icmp_geN (tgt := 93) d_m_card_84 87 rfl rfl (by omega) (by omega) (fun h84 => ?_) (fun h84 => ?_)
            · exact wr (Or.inl h84)
            · refine z_iload d_m_card_87 89 rfl rfl ?_
              refine z_iconst (v := nI 1) d_m_card_89 90 rfl rfl ?_
              refine z_icmp_neN (tgt := 109) d_m_card_90 93 rfl rfl (by omega) (by omega) (fun h90 => ?_) (fun h90 => ?_)
              · rw [if_neg (by omega), List.append_nil] at next
                refine z_iload d_m_card_109 111 rfl rfl ?_
                refine z_bipush (v := nI 10) d_m_card_111 113 rfl rfl ?_
                refine z_idivN d_m_card_113 114 rfl (by omega) (by omega) (by omega) ?_
                rw [hpp]
                refine z_ist6 d_m_card_114 116 rfl rfl ?_
                refine z_goto (tgt := 75) d_m_card_116 rfl ?_
                exact next x hk s_x
              · exact wr (Or.inr h90)
        have e1 : dec m = (if 1000 ≤ m ∨ 1000 = 1 then [48 + m / 1000 % 10] else []) ++ ((if 100 ≤ m ∨ 100 = 1 then [48 + m / 100 % 10] else []) ++ ((if 10 ≤ m ∨ 10 = 1 then [48 + m / 10 % 10] else []) ++ (if 1 ≤ m ∨ 1 = 1 then [48 + m / 1 % 10] else []))) := by simp [dec]
        generalize hb1 : (if 1000 ≤ m ∨ 1000 = 1 then [48 + m / 1000 % 10] else []) = B1 at e1
        generalize hb2 : (if 100 ≤ m ∨ 100 = 1 then [48 + m / 100 % 10] else []) = B2 at e1
        generalize hb3 : (if 10 ≤ m ∨ 10 = 1 then [48 + m / 10 % 10] else []) = B3 at e1
        generalize hb4 : (if 1 ≤ m ∨ 1 = 1 then [48 + m / 1 % 10] else []) = B4 at e1
        have l1 : B1.length ≤ 1 := by rw [← hb1]; split <;> simp
        have l2 : B2.length ≤ 1 := by rw [← hb2]; split <;> simp
        have l3 : B3.length ≤ 1 := by rw [← hb3]; split <;> simp
        refine step 1000 100 x2 [] (by decide) (by decide) (by decide) kk s_x2 (by simp) ⟨_, by rw [hb1, List.nil_append]; exact e1⟩ (fun y1 ky1 sy1 => ?_)
        rw [hb1, List.nil_append] at sy1
        refine step 100 10 y1 B1 (by decide) (by decide) (by decide) ky1 sy1 (by omega) ⟨_, by rw [hb2]; exact e1⟩ (fun y2 ky2 sy2 => ?_)
        rw [hb2] at sy2
        refine step 10 1 y2 (B1 ++ B2) (by decide) (by decide) (by decide) ky2 sy2 (by simp; omega) ⟨_, by rw [hb3, List.append_assoc]; exact e1⟩ (fun y3 ky3 sy3 => ?_)
        rw [hb3] at sy3
        refine step 1 0 y3 (B1 ++ B2 ++ B3) (by decide) (by decide) (by decide) ky3 sy3 (by simp; omega) ⟨[], by rw [hb4, List.append_nil, List.append_assoc, List.append_assoc]; exact e1⟩ (fun y4 ky4 sy4 => ?_)
        rw [hb4] at sy4
        refine z_iload d_m_card_75 77 rfl rfl ?_
        refine z_iconst (v := nI 1) d_m_card_77 78 rfl rfl ?_
        refine z_icmp_ltN (tgt := 119) d_m_card_78 81 rfl rfl (by omega) (by omega) (fun h78 => ?_) (fun h78 => ?_)
        · refine z_goto (tgt := 274) d_m_card_119 rfl ?_
          exact tail y4 ([68, 32] ++ (B1 ++ B2 ++ B3 ++ B4)) (some (.int (nI 0))) ky4 sy4 (by rw [hLD, e1]; simp)
        · omega
    · refine z_iconst (v := -1) d_m_card_29 30 rfl (by decide) ?_
      exact z_iret d_m_card_30 rfl (Nat.le_refl 0) (Nat.le_refl 0) (hQ0 (Or.inr ⟨L, hL, by omega⟩))
end M10
end
section
/-! The reference: drop, files, hold, put. Own work. -/
/-- a repository has taken a text into its slot n -/
def hdR (r n : Nat) (va va' : Nat → Nat → Int32) : Prop := (∀ j, 4 ≤ j → va' j = va j) ∧ (∀ q, q ≠ r → va' 3 q = va 3 q) ∧ (∀ q, q ≠ 32 * r + n → va' 2 q = va 2 q ∧ va' 1 q = va 1 q) ∧ ∀ i, (i < 240 * (32 * r + n) ∨ 240 * (32 * r + n) + 240 ≤ i) → va' 0 i = va 0 i
theorem hdR.slot {r n t : Nat} {va va' : Nat → Nat → Int32} {bs : List Nat} (h : hdR r n va va') (ht : t ≠ 32 * r + n) (hr : slotP va t bs) : slotP va' t bs := by
  refine ⟨fun k hk => ?_, by rw [(h.2.2.1 t ht).2]; exact hr.2.1, hr.2.2⟩
  have hl := hr.2.2
  rw [h.2.2.2 _ (by omega)]
  exact hr.1 k hk
theorem hdR.rep {r n q : Nat} {va va' : Nat → Nat → Int32} {As : List (List Nat)} (h : hdR r n va va') (hn : n < 32) (hq : q ≠ r) (hr : repP va q As) : repP va' q As := by
  have h32 := hr.1
  refine ⟨hr.1, by rw [h.2.1 q hq]; exact hr.2.1, fun i hi => ⟨h.slot (by omega) (hr.2.2 i hi).1, by rw [(h.2.2.1 _ (by omega)).1]; exact (hr.2.2 i hi).2⟩⟩
section M11
variable {l : Launch} {D : zD} {hp : zH} {o : Nat} {va : Nat → Nat → Int32} {vf : Nat → Int32} {Q : Option Value → zH → Prop}
theorem c_m_drop {dr : List Nat} (hr : slotP va 64 dr) (hQ : ∀ va', sk 64 va va' → slotP va' 64 [] → Q (some (.int (nI dr.length))) (zmod D o hp va' vf)) : Runs l D M_m_drop [.ref o] (zmod D o hp va vf) 0 0 Q := by
  refine Runs.of rfl rfl (Nat.le_of_ble_eq_true rfl) ?_
  refine z_aload_n d_m_drop_0 1 rfl rfl rfl ?_
  refine zm_getA 1 d_m_drop_1 4 rfl f_m_13 rfl ?_
  refine z_bipush (v := nI 64) d_m_drop_4 6 rfl rfl ?_
  refine zm_iald d_m_drop_6 7 rfl (by decide) rfl (by simp only [zln]; omega) ?_
  rw [hr.2.1]
  refine z_ist1 d_m_drop_7 8 rfl rfl ?_
  refine z_aload_n d_m_drop_8 9 rfl rfl rfl ?_
  refine zm_getA 1 d_m_drop_9 12 rfl f_m_13 rfl ?_
  refine z_bipush (v := nI 64) d_m_drop_12 14 rfl rfl ?_
  refine z_iconst (v := nI 0) d_m_drop_14 15 rfl rfl ?_
  refine zm_iast d_m_drop_15 16 rfl (by decide) rfl (by simp only [zln]; omega) ?_
  refine z_iload_n d_m_drop_16 17 rfl rfl rfl ?_
  exact z_iret d_m_drop_17 rfl (Nat.le_refl 0) (Nat.le_refl 0) (hQ _ ⟨fun j hj => by simp only [va_up]; rw [if_neg (by omega)], fun t ht => by show upd (va 1) 64 _ t = _; exact pk_un ht, fun i _ => rfl⟩ ⟨fun k hk => by simp at hk, by show upd (va 1) 64 _ 64 = _; rw [pk_us]; rfl, by simp⟩)
theorem isRp_of {r : Int32} (h : isRp r = true) : ∃ q : Nat, q < 2 ∧ r = nI q := by
  simp only [isRp, Bool.or_eq_true, decide_eq_true_eq] at h
  rcases h with h | h
  · exact ⟨0, by decide, h⟩
  · exact ⟨1, by decide, h⟩
theorem c_m_files (r : Int32) {As : Nat → List (List Nat)} {dr : List Nat} (hR : ∀ q, q < 2 → repP va q (As q)) (hr : slotP va 64 dr)
    (hQ : ∀ f : Nat → Int32, f 9 = vf 9 → Q (some (.int (if isRp r = true then oI (filesL (As (toN r)) (lns dr) 7) else -1))) (zmod D o hp va f)) : Runs l D M_m_files [.ref o, .int r] (zmod D o hp va vf) 0 0 Q := by
  refine Runs.of rfl rfl (Nat.le_of_ble_eq_true rfl) ?_
  refine z_iload_n d_m_files_0 1 rfl rfl rfl ?_
  refine zm_cS1 d_m_files_1 4 rfl ms_m_isRepository kl_m_129 (by decide) (fun Q' h => c_m_isRepository _ h) rfl rfl (Nat.le_of_ble_eq_true rfl) ?_
  refine z_if_eqB (tgt := 17) d_m_files_4 7 rfl rfl (fun h4 => ?_) (fun h4 => ?_)
  · rw [h4] at hQ
    refine z_iconst (v := -1) d_m_files_17 18 rfl (by decide) ?_
    exact z_iret d_m_files_18 rfl (Nat.le_refl 0) (Nat.le_refl 0) (hQ vf rfl)
  · rw [h4] at hQ
    obtain ⟨q, hq, rfl⟩ := isRp_of h4
    rw [toN_nI (by omega), if_pos rfl] at hQ
    refine z_aload_n d_m_files_7 8 rfl rfl rfl ?_
    refine z_iload_n d_m_files_8 9 rfl rfl rfl ?_
    refine z_bipush (v := nI 64) d_m_files_9 11 rfl rfl ?_
    refine zm_cV (fun v a f => v = .int (oI (filesL (As q) (lns dr) 7)) ∧ va = a ∧ f 9 = vf 9) d_m_files_11 14 rfl mv_m_filesOf kl_m_105 (by decide) (fun Q' h => c_m_filesOf q 64 hq (hR q hq) hr (by decide) (fun f h1 => h _ _ _ ⟨rfl, rfl, h1⟩)) rfl rfl (Nat.le_of_ble_eq_true rfl) ?_; rintro _ _ f ⟨rfl, rfl, i1⟩
    refine z_goto (tgt := 18) d_m_files_14 rfl ?_
    exact z_iret d_m_files_18 rfl (Nat.le_refl 0) (Nat.le_refl 0) (hQ f i1)
theorem c_m_hold (r s : Nat) {As : List (List Nat)} {bs : List Nat} (hr2 : r < 2) (hR : repP va r As) (hs : s < 66) (hne : As.length < 32 → s ≠ 32 * r + As.length) (hr : slotP va s bs)
    (hQ0 : (fnd (nI (dg 7 bs)) As (32 * r) ≠ none ∨ As.length = 32) → Q none (zmod D o hp va vf))
    (hQ : fnd (nI (dg 7 bs)) As (32 * r) = none → As.length < 32 → ∀ va', hdR r As.length va va' → repP va' r (As ++ [bs]) → Q none (zmod D o hp va' vf)) :
    Runs l D M_m_hold [.ref o, .int (nI r), .int (nI s), .int (nI (dg 7 bs))] (zmod D o hp va vf) 0 0 Q := by
  refine Runs.of rfl rfl (Nat.le_of_ble_eq_true rfl) ?_
  have h32 := hR.1
  have hl := hr.2.2
  refine z_aload_n d_m_hold_0 1 rfl rfl rfl ?_
  refine z_iload_n d_m_hold_1 2 rfl rfl rfl ?_
  refine z_iload_n d_m_hold_2 3 rfl rfl rfl ?_
  refine zm_cV1 d_m_hold_3 6 rfl mv_m_find kl_m_98 (by decide) (fun Q' h => c_m_find r _ hr2 hR h) rfl rfl (Nat.le_of_ble_eq_true rfl) ?_
  refine z_if_geO (tgt := 20) d_m_hold_6 9 rfl rfl (fun v h => by obtain ⟨h1, h2, -⟩ := (fnd_lk _ As (32 * r)).2 v h; omega) (fun w6 h6 => ?_) (fun h6 => ?_)
  · exact z_vret d_m_hold_20 rfl (Nat.le_refl 0) (Nat.le_refl 0) (hQ0 (Or.inl (by rw [h6]; simp)))
  · refine z_aload_n d_m_hold_9 10 rfl rfl rfl ?_
    refine zm_getA 3 d_m_hold_10 13 rfl f_m_20 rfl ?_
    refine z_iload_n d_m_hold_13 14 rfl rfl rfl ?_
    refine zm_iald d_m_hold_14 15 rfl (by decide) rfl (by simp only [zln]; omega) ?_
    rw [hR.2.1]
    refine z_bipush (v := nI 32) d_m_hold_15 17 rfl rfl ?_
    refine z_icmp_neN (tgt := 21) d_m_hold_17 20 rfl rfl (by omega) (by omega) (fun h17 => ?_) (fun h17 => ?_)
    · have hlt : As.length < 32 := by omega
      have hne := hne hlt
      refine z_bipush (v := nI 32) d_m_hold_21 23 rfl rfl ?_
      refine z_iload_n d_m_hold_23 24 rfl rfl rfl ?_
      first | refine z_imulN d_m_hold_24 25 rfl ?_ | refine z_imul d_m_hold_24 25 rfl ?_
      refine z_aload_n d_m_hold_25 26 rfl rfl rfl ?_
      refine zm_getA 3 d_m_hold_26 29 rfl f_m_20 rfl ?_
      refine z_iload_n d_m_hold_29 30 rfl rfl rfl ?_
      refine zm_iald d_m_hold_30 31 rfl (by decide) rfl (by simp only [zln]; omega) ?_
      rw [hR.2.1]
      first | refine z_iaddN d_m_hold_31 32 rfl ?_ | refine z_iadd d_m_hold_31 32 rfl ?_
      refine z_ist4 d_m_hold_32 34 rfl rfl ?_
      refine z_iconst (v := nI 0) d_m_hold_34 35 rfl rfl ?_
      refine z_ist5 d_m_hold_35 37 rfl rfl ?_
      have loop : ∀ (c k : Nat) (x : Nat → Nat → Int32), k + c = bs.length → (∀ j, 1 ≤ j → x j = va j) → (∀ i, (i < 240 * (32 * r + As.length) ∨ 240 * (32 * r + As.length) + k ≤ i) → x 0 i = va 0 i) → (∀ i, i < k → x 0 (240 * (32 * r + As.length) + i) = sb_b (bs.getD i 0)) → Z l D M_m_hold 0 0 Q (zmod D o hp x vf) 0 0 37 [some (.ref o), some (.int (nI r)), some (.int (nI s)), some (.int (nI (dg 7 bs))), some (.int (nI (32 * r + As.length))), some (.int (nI k))] [] := by
        intro c
        induction c with
        | zero =>
          intro k x hk h1 h2 h3
          refine z_iload d_m_hold_37 39 rfl rfl ?_
          refine z_aload_n d_m_hold_39 40 rfl rfl rfl ?_
          refine zm_getA 1 d_m_hold_40 43 rfl f_m_13 rfl ?_
          refine z_iload_n d_m_hold_43 44 rfl rfl rfl ?_
          refine zm_iald d_m_hold_44 45 rfl (by decide) rfl (by simp only [zln]; omega) ?_
          rw [h1 1 (by decide), hr.2.1]
          refine z_icmp_geN (tgt := 81) d_m_hold_45 48 rfl rfl (by omega) (by omega) (fun h45 => ?_) (fun h45 => ?_)
          · refine z_aload_n d_m_hold_81 82 rfl rfl rfl ?_
            refine zm_getA 1 d_m_hold_82 85 rfl f_m_13 rfl ?_
            refine z_iload d_m_hold_85 87 rfl rfl ?_
            refine z_aload_n d_m_hold_87 88 rfl rfl rfl ?_
            refine zm_getA 1 d_m_hold_88 91 rfl f_m_13 rfl ?_
            refine z_iload_n d_m_hold_91 92 rfl rfl rfl ?_
            refine zm_iald d_m_hold_92 93 rfl (by decide) rfl (by simp only [zln]; omega) ?_
            rw [h1 1 (by decide), hr.2.1]
            refine zm_iast d_m_hold_93 94 rfl (by decide) rfl (by simp only [zln]; omega) ?_
            refine z_aload_n d_m_hold_94 95 rfl rfl rfl ?_
            refine zm_getA 2 d_m_hold_95 98 rfl f_m_17 rfl ?_
            refine z_iload d_m_hold_98 100 rfl rfl ?_
            refine z_iload_n d_m_hold_100 101 rfl rfl rfl ?_
            refine zm_iast d_m_hold_101 102 rfl (by decide) rfl (by simp only [zln]; omega) ?_
            refine z_aload_n d_m_hold_102 103 rfl rfl rfl ?_
            refine zm_getA 3 d_m_hold_103 106 rfl f_m_20 rfl ?_
            refine z_iload_n d_m_hold_106 107 rfl rfl rfl ?_
            refine z_dup2 d_m_hold_107 108 rfl rfl rfl ?_
            refine zm_iald d_m_hold_108 109 rfl (by decide) rfl (by simp only [zln]; omega) ?_
            rw [show (va_up (va_up x 1 (upd (x 1) (32 * r + As.length) (nI bs.length))) 2 (upd ((va_up x 1 (upd (x 1) (32 * r + As.length) (nI bs.length))) 2) (32 * r + As.length) (nI (dg 7 bs)))) 3 r = nI As.length by
              show x 3 r = _
              rw [h1 3 (by decide)]
              exact hR.2.1]
            refine z_iconst (v := nI 1) d_m_hold_109 110 rfl rfl ?_
            first | refine z_iaddN d_m_hold_110 111 rfl ?_ | refine z_iadd d_m_hold_110 111 rfl ?_
            refine zm_iast d_m_hold_111 112 rfl (by decide) rfl (by simp only [zln]; omega) ?_
            have hnew : ∀ y, y = (va_up (va_up (va_up x 1 (upd (x 1) (32 * r + As.length) (nI bs.length))) 2 (upd ((va_up x 1 (upd (x 1) (32 * r + As.length) (nI bs.length))) 2) (32 * r + As.length) (nI (dg 7 bs)))) 3 (upd ((va_up (va_up x 1 (upd (x 1) (32 * r + As.length) (nI bs.length))) 2 (upd ((va_up x 1 (upd (x 1) (32 * r + As.length) (nI bs.length))) 2) (32 * r + As.length) (nI (dg 7 bs)))) 3) r (nI (As.length + 1)))) → hdR r As.length va y ∧ repP y r (As ++ [bs]) := by
              intro y hy
              have y0 : y 0 = x 0 := by rw [hy]; rfl
              have y1 : y 1 = upd (va 1) (32 * r + As.length) (nI bs.length) := by rw [hy, ← h1 1 (by decide)]; rfl
              have y2 : y 2 = upd (va 2) (32 * r + As.length) (nI (dg 7 bs)) := by rw [hy, ← h1 2 (by decide)]; rfl
              have y3 : y 3 = upd (va 3) r (nI (As.length + 1)) := by rw [hy, ← h1 3 (by decide)]; rfl
              have hh : hdR r As.length va y := by
                refine ⟨fun j hj => ?_, fun q hq => by rw [y3]; exact pk_un hq, fun q hq => ⟨by rw [y2]; exact pk_un hq, by rw [y1]; exact pk_un hq⟩, fun i hi => ?_⟩
                · rw [hy]
                  simp only [va_up]
                  rw [if_neg (by omega), if_neg (by omega), if_neg (by omega)]
                  exact h1 j (by omega)
                · rw [y0]
                  exact h2 i (by omega)
              refine ⟨hh, by simp; omega, by rw [y3, pk_us]; simp, fun i hi => ?_⟩
              simp at hi
              by_cases hi2 : i = As.length
              · subst hi2
                have e : (As ++ [bs]).getD As.length [] = bs := by simp
                rw [e]
                refine ⟨⟨fun q hq => ⟨(hr.1 q hq).1, ?_⟩, by rw [y1, pk_us], hl⟩, by rw [y2, pk_us]⟩
                rw [y0]
                exact h3 q (by omega)
              · have e : (As ++ [bs]).getD i [] = As.getD i [] := by simp [List.getElem?_append_left (show i < As.length by omega)]
                rw [e]
                obtain ⟨a1, a2⟩ := hR.2.2 i (by omega)
                refine ⟨hh.slot (by omega) a1, ?_⟩
                rw [y2, pk_un (by omega)]
                exact a2
            obtain ⟨n1, n2⟩ := hnew _ rfl
            exact z_vret d_m_hold_112 rfl (Nat.le_refl 0) (Nat.le_refl 0) (hQ h6 hlt _ n1 n2)
          · omega
        | succ c ih =>
          intro k x hk h1 h2 h3
          refine z_iload d_m_hold_37 39 rfl rfl ?_
          refine z_aload_n d_m_hold_39 40 rfl rfl rfl ?_
          refine zm_getA 1 d_m_hold_40 43 rfl f_m_13 rfl ?_
          refine z_iload_n d_m_hold_43 44 rfl rfl rfl ?_
          refine zm_iald d_m_hold_44 45 rfl (by decide) rfl (by simp only [zln]; omega) ?_
          rw [h1 1 (by decide), hr.2.1]
          refine z_icmp_geN (tgt := 81) d_m_hold_45 48 rfl rfl (by omega) (by omega) (fun h45 => ?_) (fun h45 => ?_)
          · omega
          · refine z_aload_n d_m_hold_48 49 rfl rfl rfl ?_
            refine zm_getA 0 d_m_hold_49 52 rfl f_m_7 rfl ?_
            refine z_sipush (v := nI 240) d_m_hold_52 55 rfl rfl ?_
            refine z_iload d_m_hold_55 57 rfl rfl ?_
            first | refine z_imulN d_m_hold_57 58 rfl ?_ | refine z_imul d_m_hold_57 58 rfl ?_
            refine z_iload d_m_hold_58 60 rfl rfl ?_
            first | refine z_iaddN d_m_hold_60 61 rfl ?_ | refine z_iadd d_m_hold_60 61 rfl ?_
            refine z_aload_n d_m_hold_61 62 rfl rfl rfl ?_
            refine zm_getA 0 d_m_hold_62 65 rfl f_m_7 rfl ?_
            refine z_sipush (v := nI 240) d_m_hold_65 68 rfl rfl ?_
            refine z_iload_n d_m_hold_68 69 rfl rfl rfl ?_
            first | refine z_imulN d_m_hold_69 70 rfl ?_ | refine z_imul d_m_hold_69 70 rfl ?_
            refine z_iload d_m_hold_70 72 rfl rfl ?_
            first | refine z_iaddN d_m_hold_72 73 rfl ?_ | refine z_iadd d_m_hold_72 73 rfl ?_
            refine zm_bald d_m_hold_73 74 rfl (by omega) ?_
            rw [h2 (240 * s + k) (by omega), (hr.1 k (by omega)).2]
            refine zm_bast d_m_hold_74 75 rfl (by omega) ?_
            rw [show vp_nar .byte (sb_b (bs.getD k 0)) = sb_b (bs.getD k 0) from pk_vb _]
            first | refine z_incN5 d_m_hold_75 78 rfl rfl ?_ | refine z_inc5 d_m_hold_75 78 rfl rfl rfl ?_
            refine z_goto (tgt := 37) d_m_hold_78 rfl ?_
            refine ih (k + 1) _ (by omega) (fun j hj => ?_) (fun i hi => ?_) (fun i hi => ?_)
            · simp only [va_up]
              rw [if_neg (by omega)]
              exact h1 j hj
            · show upd (x 0) _ _ i = _
              rw [pk_un (by omega)]
              exact h2 i (by omega)
            · show upd (x 0) _ _ _ = _
              by_cases hik : i = k
              · subst hik
                rw [pk_us]
              · rw [pk_un (by omega)]
                exact h3 i (by omega)
      exact loop bs.length 0 va (by omega) (fun _ _ => rfl) (fun _ _ => rfl) (fun i hi => by omega)
    · exact z_vret d_m_hold_20 rfl (Nat.le_refl 0) (Nat.le_refl 0) (hQ0 (Or.inr (by omega)))
theorem c_m_put (r : Int32) {As : Nat → List (List Nat)} {dr : List Nat} (hR : ∀ q, q < 2 → repP va q (As q)) (hr : slotP va 64 dr)
    (hQ0 : (isRp r = false ∨ dr = [] ∨ ((As (toN r)).length = 32 ∧ lk (As (toN r)) (nI (dg 7 dr)) = none)) → Q (some (.int (-1))) (zmod D o hp va vf))
    (hQ1 : isRp r = true → dr ≠ [] → lk (As (toN r)) (nI (dg 7 dr)) ≠ none → ∀ va', sk 64 va va' → slotP va' 64 [] → Q (some (.int (nI (dg 7 dr)))) (zmod D o hp va' vf))
    (hQ2 : isRp r = true → dr ≠ [] → lk (As (toN r)) (nI (dg 7 dr)) = none → (As (toN r)).length < 32 → ∀ va1 va', hdR (toN r) (As (toN r)).length va va1 → repP va1 (toN r) (As (toN r) ++ [dr]) → sk 64 va1 va' → slotP va' 64 [] → Q (some (.int (nI (dg 7 dr)))) (zmod D o hp va' vf)) :
    Runs l D M_m_put [.ref o, .int r] (zmod D o hp va vf) 0 0 Q := by
  refine Runs.of rfl rfl (Nat.le_of_ble_eq_true rfl) ?_
  have hl := hr.2.2
  have hd := dg7 dr
  refine z_iload_n d_m_put_0 1 rfl rfl rfl ?_
  refine zm_cS1 d_m_put_1 4 rfl ms_m_isRepository kl_m_129 (by decide) (fun Q' h => c_m_isRepository _ h) rfl rfl (Nat.le_of_ble_eq_true rfl) ?_
  refine z_if_eqB (tgt := 17) d_m_put_4 7 rfl rfl (fun h4 => ?_) (fun h4 => ?_)
  · refine z_iconst (v := -1) d_m_put_17 18 rfl (by decide) ?_
    exact z_iret d_m_put_18 rfl (Nat.le_refl 0) (Nat.le_refl 0) (hQ0 (Or.inl h4))
  · obtain ⟨q, hq, rfl⟩ := isRp_of h4
    rw [toN_nI (by omega)] at hQ0 hQ1 hQ2
    have hRq := hR q hq
    have h32 := hRq.1
    obtain ⟨j1, j2⟩ := fnd_lk (nI (dg 7 dr)) (As q) (32 * q)
    have clr : ∀ x : Nat → Nat → Int32, slotP x 64 dr → sk 64 x (va_up x 1 (upd (x 1) 64 (nI 0))) ∧ slotP (va_up x 1 (upd (x 1) 64 (nI 0))) 64 [] := by
      intro x hx
      exact ⟨⟨fun j hj => by simp only [va_up]; rw [if_neg (by omega)], fun t ht => by show upd (x 1) 64 _ t = _; exact pk_un ht, fun i _ => rfl⟩, ⟨fun k hk => by simp at hk, by show upd (x 1) 64 _ 64 = _; rw [pk_us]; rfl, by simp⟩⟩
    refine z_aload_n d_m_put_7 8 rfl rfl rfl ?_
    refine zm_getA 1 d_m_put_8 11 rfl f_m_13 rfl ?_
    refine z_bipush (v := nI 64) d_m_put_11 13 rfl rfl ?_
    refine zm_iald d_m_put_13 14 rfl (by decide) rfl (by simp only [zln]; omega) ?_
    rw [hr.2.1]
    refine z_if_neN (tgt := 19) d_m_put_14 17 rfl rfl (by omega) (fun h14 => ?_) (fun h14 => ?_)
    · have hdr : dr ≠ [] := fun e => h14 (by rw [e]; rfl)
      refine z_aload_n d_m_put_19 20 rfl rfl rfl ?_
      refine z_bipush (v := nI 7) d_m_put_20 22 rfl rfl ?_
      refine z_bipush (v := nI 64) d_m_put_22 24 rfl rfl ?_
      refine z_aload_n d_m_put_24 25 rfl rfl rfl ?_
      refine zm_getA 1 d_m_put_25 28 rfl f_m_13 rfl ?_
      refine z_bipush (v := nI 64) d_m_put_28 30 rfl rfl ?_
      refine zm_iald d_m_put_30 31 rfl (by decide) rfl (by simp only [zln]; omega) ?_
      rw [hr.2.1]
      refine zm_cV1 d_m_put_31 34 rfl mv_m_digest kl_m_94 (by decide) (fun Q' h => c_m_digest 7 64 _ hr.1 (Nat.le_refl _) (by decide) hl (by decide) h) rfl rfl (Nat.le_of_ble_eq_true rfl) ?_
      rw [List.take_length]
      have go : (lk (As q) (nI (dg 7 dr)) = none → (As q).length < 32) → Z l D M_m_put 0 0 Q (zmod D o hp va vf) 0 0 57 [some (.ref o), some (.int (nI q)), some (.int (nI (dg 7 dr)))] [] := by
        intro hok
        refine z_aload_n d_m_put_57 58 rfl rfl rfl ?_
        refine z_iload_n d_m_put_58 59 rfl rfl rfl ?_
        refine z_bipush (v := nI 64) d_m_put_59 61 rfl rfl ?_
        refine z_iload_n d_m_put_61 62 rfl rfl rfl ?_
        refine zm_cVv (fun a f => vf = f ∧ ((a = va ∧ lk (As q) (nI (dg 7 dr)) ≠ none) ∨ (lk (As q) (nI (dg 7 dr)) = none ∧ hdR q (As q).length va a ∧ repP a q (As q ++ [dr])))) d_m_put_62 65 rfl mv_m_hold kl_m_132 (by decide) (fun Q' h => c_m_hold q 64 hq hRq (by decide) (fun _ => by omega) hr (fun h0 => h _ _ ⟨rfl, Or.inl ⟨rfl, fun e => by rcases h0 with h0 | h0; (cases hf : fnd (nI (dg 7 dr)) (As q) (32 * q) with | none => exact h0 hf | some v => (obtain ⟨-, -, b3, -⟩ := j2 v hf; rw [b3] at e; cases e)); (have := hok e; omega)⟩⟩) (fun h1 h2 a h3 h4 => h _ _ ⟨rfl, Or.inr ⟨j1 h1, h3, h4⟩⟩)) rfl rfl (Nat.le_of_ble_eq_true rfl) ?_; rintro x _ ⟨rfl, hx⟩
        rcases hx with ⟨rfl, hne⟩ | ⟨he, hx1, hx2⟩
        · refine z_aload_n d_m_put_65 66 rfl rfl rfl ?_
          refine zm_getA 1 d_m_put_66 69 rfl f_m_13 rfl ?_
          refine z_bipush (v := nI 64) d_m_put_69 71 rfl rfl ?_
          refine z_iconst (v := nI 0) d_m_put_71 72 rfl rfl ?_
          refine zm_iast d_m_put_72 73 rfl (by decide) rfl (by simp only [zln]; omega) ?_
          refine z_iload_n d_m_put_73 74 rfl rfl rfl ?_
          obtain ⟨c1, c2⟩ := clr _ hr
          exact z_iret d_m_put_74 rfl (Nat.le_refl 0) (Nat.le_refl 0) (hQ1 h4 hdr hne _ c1 c2)
        · have hxr := hx1.slot (t := 64) (by have := hok he; omega) hr
          refine z_aload_n d_m_put_65 66 rfl rfl rfl ?_
          refine zm_getA 1 d_m_put_66 69 rfl f_m_13 rfl ?_
          refine z_bipush (v := nI 64) d_m_put_69 71 rfl rfl ?_
          refine z_iconst (v := nI 0) d_m_put_71 72 rfl rfl ?_
          refine zm_iast d_m_put_72 73 rfl (by decide) rfl (by simp only [zln]; omega) ?_
          refine z_iload_n d_m_put_73 74 rfl rfl rfl ?_
          obtain ⟨c1, c2⟩ := clr _ hxr
          exact z_iret d_m_put_74 rfl (Nat.le_refl 0) (Nat.le_refl 0) (hQ2 h4 hdr he (hok he) _ _ hx1 hx2 c1 c2)
      refine z_ist2 d_m_put_34 35 rfl rfl ?_
      refine z_aload_n d_m_put_35 36 rfl rfl rfl ?_
      refine zm_getA 3 d_m_put_36 39 rfl f_m_20 rfl ?_
      refine z_iload_n d_m_put_39 40 rfl rfl rfl ?_
      refine zm_iald d_m_put_40 41 rfl (by decide) rfl (by simp only [zln]; omega) ?_
      rw [hRq.2.1]
      refine z_bipush (v := nI 32) d_m_put_41 43 rfl rfl ?_
      refine z_icmp_neN (tgt := 57) d_m_put_43 46 rfl rfl (by omega) (by omega) (fun h43 => ?_) (fun h43 => ?_)
      · exact go (fun _ => by omega)
      · refine z_aload_n d_m_put_46 47 rfl rfl rfl ?_
        refine z_iload_n d_m_put_47 48 rfl rfl rfl ?_
        refine z_iload_n d_m_put_48 49 rfl rfl rfl ?_
        refine zm_cV1 d_m_put_49 52 rfl mv_m_find kl_m_98 (by decide) (fun Q' h => c_m_find q _ hq hRq h) rfl rfl (Nat.le_of_ble_eq_true rfl) ?_
        refine z_if_geO (tgt := 57) d_m_put_52 55 rfl rfl (fun v h => by obtain ⟨h1, h2, -⟩ := j2 v h; omega) (fun w52 h52 => ?_) (fun h52 => ?_)
        · exact go (fun e => by obtain ⟨-, -, b3, -⟩ := j2 _ h52; rw [b3] at e; cases e)
        · refine z_iconst (v := -1) d_m_put_55 56 rfl (by decide) ?_
          exact z_iret d_m_put_56 rfl (Nat.le_refl 0) (Nat.le_refl 0) (hQ0 (Or.inr (Or.inr ⟨h43, j1 h52⟩)))
    · refine z_iconst (v := -1) d_m_put_17 18 rfl (by decide) ?_
      exact z_iret d_m_put_18 rfl (Nat.le_refl 0) (Nat.le_refl 0) (hQ0 (Or.inr (Or.inl (List.length_eq_zero_iff.mp h14))))
end M11
end
section
/-! The reference: the list of names. Own work. -/
def SS (L : List Nat) : Prop := L.Pairwise (· < ·)
theorem SS_lt {L : List Nat} (h : SS L) {i j : Nat} (hij : i < j) (hj : j < L.length) : L.getD i 0 < L.getD j 0 := by
  have := List.pairwise_iff_getElem.mp h i j (by omega) hj hij
  simpa [List.getD_eq_getElem?_getD, List.getElem?_eq_getElem hj, List.getElem?_eq_getElem (show i < L.length by omega)] using this
theorem getD_mem {L : List Nat} {i : Nat} (h : i < L.length) : L.getD i 0 ∈ L := by
  rw [List.getD_eq_getElem?_getD, List.getElem?_eq_getElem h]
  exact List.getElem_mem h
theorem mem_getD {L : List Nat} {x : Nat} (h : x ∈ L) : ∃ i, i < L.length ∧ L.getD i 0 = x := by
  obtain ⟨i, hi, e⟩ := List.getElem_of_mem h
  exact ⟨i, hi, by rw [List.getD_eq_getElem?_getD, List.getElem?_eq_getElem hi]; exact e⟩
/-- two rising lists of the same numbers are one -/
theorem SS_ext : ∀ {L M : List Nat}, SS L → SS M → (∀ x, x ∈ L ↔ x ∈ M) → L = M := by
  intro L
  induction L with
  | nil =>
    intro M _ _ h
    cases M with
    | nil => rfl
    | cons b t => exact absurd ((h b).2 List.mem_cons_self) List.not_mem_nil
  | cons a t ih =>
    intro M hL hM h
    cases M with
    | nil => exact absurd ((h a).1 List.mem_cons_self) List.not_mem_nil
    | cons b u =>
      have h1 := List.pairwise_cons.mp hL
      have h2 := List.pairwise_cons.mp hM
      have e : a = b := by
        rcases List.mem_cons.mp ((h a).1 List.mem_cons_self) with e | e
        · exact e
        · rcases List.mem_cons.mp ((h b).2 List.mem_cons_self) with e2 | e2
          · exact e2.symm
          · have := h1.1 b e2
            have := h2.1 a e
            omega
      subst e
      congr 1
      refine ih h1.2 h2.2 fun x => ⟨fun hx => ?_, fun hx => ?_⟩
      · rcases List.mem_cons.mp ((h x).1 (List.mem_cons_of_mem _ hx)) with e | e
        · have := h1.1 x hx
          omega
        · exact e
      · rcases List.mem_cons.mp ((h x).2 (List.mem_cons_of_mem _ hx)) with e | e
        · have := h2.1 x hx
          omega
        · exact e
/-- a rising list within another is no longer -/
theorem SS_len : ∀ {L U : List Nat}, SS L → (∀ x, x ∈ L → x ∈ U) → L.length ≤ U.length := by
  intro L
  induction L with
  | nil => intro U _ _; simp
  | cons a t ih =>
    intro U hL h
    have h1 := List.pairwise_cons.mp hL
    have ha := h a List.mem_cons_self
    have := ih (U := U.erase a) h1.2 (fun x hx => by
      have hx2 := h1.1 x hx
      exact (List.mem_erase_of_ne (by omega)).2 (h x (List.mem_cons_of_mem _ hx)))
    rw [List.length_erase_of_mem ha] at this
    have hpos : 0 < U.length := List.length_pos_of_mem ha
    simp
    omega
theorem SS_ins {L : List Nat} {n k : Nat} (hS : SS L) (hk : k ≤ L.length) (h1 : ∀ i, i < k → L.getD i 0 < n) (h2 : ∀ i, k ≤ i → i < L.length → n < L.getD i 0) : SS (L.take k ++ n :: L.drop k) ∧ (∀ x, x ∈ L.take k ++ n :: L.drop k ↔ x = n ∨ x ∈ L) ∧ (L.take k ++ n :: L.drop k).length = L.length + 1 ∧ ∀ i, i < L.length + 1 → (L.take k ++ n :: L.drop k).getD i 0 = if i < k then L.getD i 0 else if i = k then n else L.getD (i - 1) 0 := by
  have hm : ∀ x, x ∈ L ↔ x ∈ L.take k ∨ x ∈ L.drop k := fun x => by rw [← List.mem_append, List.take_append_drop]
  have ht : ∀ a, a ∈ L.take k → a < n := by
    intro a ha
    obtain ⟨i, hi, e⟩ := mem_getD ha
    have hik : i < k := by simp at hi; omega
    rw [← e]
    have := h1 i hik
    simpa [List.getElem?_take, hik] using this
  have hd : ∀ a, a ∈ L.drop k → n < a := by
    intro a ha
    obtain ⟨i, hi, e⟩ := mem_getD ha
    simp at hi
    rw [← e]
    have := h2 (k + i) (by omega) (by omega)
    simpa using this
  refine ⟨?_, fun x => ?_, by simp; omega, fun i hi => ?_⟩
  · refine List.pairwise_append.mpr ⟨List.Pairwise.sublist (List.take_sublist _ _) hS, List.pairwise_cons.mpr ⟨hd, List.Pairwise.sublist (List.drop_sublist _ _) hS⟩, fun a ha b hb => ?_⟩
    rcases List.mem_cons.mp hb with rfl | hb
    · exact ht a ha
    · exact Nat.lt_trans (ht a ha) (hd b hb)
  · rw [List.mem_append, List.mem_cons, hm]
    constructor
    · rintro (h | h | h)
      · exact Or.inr (Or.inl h)
      · exact Or.inl h
      · exact Or.inr (Or.inr h)
    · rintro (h | h | h)
      · exact Or.inr (Or.inl h)
      · exact Or.inl h
      · exact Or.inr (Or.inr h)
  · have hlt : (L.take k).length = k := by simp; omega
    by_cases hik : i < k
    · rw [if_pos hik, List.getD_eq_getElem?_getD, List.getElem?_append_left (by omega), List.getElem?_take, if_pos hik]
      rfl
    · rw [if_neg hik, List.getD_eq_getElem?_getD, List.getElem?_append_right (by omega), hlt]
      by_cases he : i = k
      · subst he
        simp
      · rw [if_neg he]
        obtain ⟨q, hq⟩ : ∃ q, i - k = q + 1 := ⟨i - k - 1, by omega⟩
        rw [hq, List.getElem?_cons_succ, List.getElem?_drop, show k + q = i - 1 by omega]
        rfl
def listP (va : Nat → Nat → Int32) (f : Nat → Int32) (L : List Nat) : Prop := f 9 = nI L.length ∧ L.length ≤ 900 ∧ SS L ∧ ∀ i, i < L.length → va 8 i = nI (L.getD i 0) ∧ L.getD i 0 < 16777216
section M12
variable {l : Launch} {D : zD} {hp : zH} {o : Nat} {va : Nat → Nat → Int32} {vf : Nat → Int32} {Q : Option Value → zH → Prop}
theorem c_m_enlist (n : Nat) {L : List Nat} (hn : n < 16777216) (hL : listP va vf L) (hlen : L.length < 900)
    (hQ : ∀ (va' : Nat → Nat → Int32) (f : Nat → Int32) (L' : List Nat), (∀ j, j ≠ 8 → va' j = va j) → (∀ j, j ≠ 9 → f j = vf j) → (∀ x, x ∈ L' ↔ x = n ∨ x ∈ L) → listP va' f L' → Q none (zmod D o hp va' f)) :
    Runs l D M_m_enlist [.ref o, .int (nI n)] (zmod D o hp va vf) 0 0 Q := by
  refine Runs.of rfl rfl (Nat.le_of_ble_eq_true rfl) ?_
  obtain ⟨h9, h900, hS, hA⟩ := hL
  -- the place is found
  have put : ∀ k, k ≤ L.length → (∀ i, i < k → L.getD i 0 < n) → (∀ i, k ≤ i → i < L.length → n < L.getD i 0) → Z l D M_m_enlist 0 0 Q (zmod D o hp va vf) 0 0 44 [some (.ref o), some (.int (nI n)), some (.int (nI k)), none] [] := by
    intro k hk h1 h2
    obtain ⟨s1, s2, s3, s4⟩ := SS_ins hS hk h1 h2
    refine z_aload_n d_m_enlist_44 45 rfl rfl rfl ?_
    refine zm_getF 9 d_m_enlist_45 48 rfl f_m_136 rfl ?_; try simp only [pk_us, pk_un, ne_eq, Nat.reduceEqDiff, not_false_eq_true]
    rw [h9]
    refine z_ist3 d_m_enlist_48 49 rfl rfl ?_
    have loop : ∀ (c j : Nat) (x : Nat → Nat → Int32), j = k + c → j ≤ L.length → (∀ q, q ≠ 8 → x q = va q) → (∀ i, i ≤ j → i < L.length → x 8 i = va 8 i) → (∀ i, j < i → i ≤ L.length → x 8 i = va 8 (i - 1)) → Z l D M_m_enlist 0 0 Q (zmod D o hp x vf) 0 0 49 [some (.ref o), some (.int (nI n)), some (.int (nI k)), some (.int (nI j))] [] := by
      intro c
      induction c with
      | zero =>
        intro j x hj hjl hx h3 h4
        refine z_iload_n d_m_enlist_49 50 rfl rfl rfl ?_
        refine z_iload_n d_m_enlist_50 51 rfl rfl rfl ?_
        refine z_icmp_leN (tgt := 74) d_m_enlist_51 54 rfl rfl (by omega) (by omega) (fun h51 => ?_) (fun h51 => ?_)
        · refine z_aload_n d_m_enlist_74 75 rfl rfl rfl ?_
          refine zm_getA 8 d_m_enlist_75 78 rfl f_m_35 rfl ?_
          refine z_iload_n d_m_enlist_78 79 rfl rfl rfl ?_
          refine z_iload_n d_m_enlist_79 80 rfl rfl rfl ?_
          refine zm_iast d_m_enlist_80 81 rfl (by decide) rfl (by simp only [zln]; omega) ?_
          refine z_aload_n d_m_enlist_81 82 rfl rfl rfl ?_
          refine z_dup d_m_enlist_82 83 rfl rfl ?_
          refine zm_getF 9 d_m_enlist_83 86 rfl f_m_136 rfl ?_; try simp only [pk_us, pk_un, ne_eq, Nat.reduceEqDiff, not_false_eq_true]
          rw [h9]
          refine z_iconst (v := nI 1) d_m_enlist_86 87 rfl rfl ?_
          first | refine z_iaddN d_m_enlist_87 88 rfl ?_ | refine z_iadd d_m_enlist_87 88 rfl ?_
          refine zm_putF 9 d_m_enlist_88 91 rfl (p_m_136 _) (by decide) (by decide) ?_
          have := hQ (va_up x 8 (upd (x 8) k (nI n))) (upd vf 9 (nI (L.length + 1))) _ (fun j hj => by simp only [va_up]; rw [if_neg hj]; exact hx j hj) (fun j hj => pk_un hj) s2 ⟨by rw [pk_us, s3], by omega, s1, fun i hi => by
            rw [s3] at hi
            rw [s4 i hi]
            show upd (x 8) k (nI n) i = _ ∧ _
            by_cases e1 : i < k
            · rw [if_pos e1, pk_un (by omega), h3 i (by omega) (by omega)]
              exact hA i (by omega)
            · rw [if_neg e1]
              by_cases e2 : i = k
              · rw [if_pos e2, e2, pk_us]
                exact ⟨rfl, hn⟩
              · rw [if_neg e2, pk_un e2, h4 i (by omega) (by omega)]
                exact hA (i - 1) (by omega)⟩
          exact z_vret d_m_enlist_91 rfl (Nat.le_refl 0) (Nat.le_refl 0) this
        · omega
      | succ c ih =>
        intro j x hj hjl hx h3 h4
        refine z_iload_n d_m_enlist_49 50 rfl rfl rfl ?_
        refine z_iload_n d_m_enlist_50 51 rfl rfl rfl ?_
        refine z_icmp_leN (tgt := 74) d_m_enlist_51 54 rfl rfl (by omega) (by omega) (fun h51 => ?_) (fun h51 => ?_)
        · omega
        · refine z_aload_n d_m_enlist_54 55 rfl rfl rfl ?_
          refine zm_getA 8 d_m_enlist_55 58 rfl f_m_35 rfl ?_
          refine z_iload_n d_m_enlist_58 59 rfl rfl rfl ?_
          refine z_aload_n d_m_enlist_59 60 rfl rfl rfl ?_
          refine zm_getA 8 d_m_enlist_60 63 rfl f_m_35 rfl ?_
          refine z_iload_n d_m_enlist_63 64 rfl rfl rfl ?_
          refine z_iconst (v := nI 1) d_m_enlist_64 65 rfl rfl ?_
          refine z_isubN d_m_enlist_65 66 rfl (by omega) ?_
          refine zm_iald d_m_enlist_66 67 rfl (by decide) rfl (by simp only [zln]; omega) ?_
          rw [h3 (j - 1) (by omega) (by omega)]
          refine zm_iast d_m_enlist_67 68 rfl (by decide) rfl (by simp only [zln]; omega) ?_
          obtain ⟨q, rfl⟩ : ∃ q, j = q + 1 := ⟨j - 1, by omega⟩
          refine z_inc3 d_m_enlist_68 71 rfl (show nI (q + 1) + Int32.ofInt (-1) = nI q from pk_m1 q) rfl ?_
          refine z_goto (tgt := 49) d_m_enlist_71 rfl ?_
          refine ih q _ (by omega) (by omega) (fun j hj => by simp only [va_up]; rw [if_neg hj]; exact hx j hj) (fun i hi1 hi2 => ?_) (fun i hi1 hi2 => ?_)
          · show upd (x 8) (q + 1) _ i = _
            rw [pk_un (by omega)]
            exact h3 i (by omega) hi2
          · show upd (x 8) (q + 1) _ i = _
            by_cases e : i = q + 1
            · subst e
              rw [pk_us]
            · rw [pk_un e]
              exact h4 i (by omega) hi2
    exact loop (L.length - k) L.length va (by omega) (Nat.le_refl _) (fun _ _ => rfl) (fun _ _ _ => rfl) (fun i h5 h6 => by omega)
  have loop1 : ∀ k, k ≤ L.length → (∀ i, k ≤ i → i < L.length → n < L.getD i 0) → Z l D M_m_enlist 0 0 Q (zmod D o hp va vf) 0 0 5 [some (.ref o), some (.int (nI n)), some (.int (nI k)), none] [] := by
    intro k
    induction k with
    | zero =>
      intro hk h2
      refine z_iload_n d_m_enlist_5 6 rfl rfl rfl ?_
      refine z_if_leN (tgt := 27) d_m_enlist_6 9 rfl rfl (by omega) (fun h6 => ?_) (fun h6 => ?_)
      · refine z_iload_n d_m_enlist_27 28 rfl rfl rfl ?_
        refine z_if_leN (tgt := 44) d_m_enlist_28 31 rfl rfl (by omega) (fun h28 => ?_) (fun h28 => ?_)
        · exact put 0 hk (fun i hi => by omega) h2
        · omega
      · omega
    | succ k ih =>
      intro hk h2
      have hAk := hA k (by omega)
      refine z_iload_n d_m_enlist_5 6 rfl rfl rfl ?_
      refine z_if_leN (tgt := 27) d_m_enlist_6 9 rfl rfl (by omega) (fun h6 => ?_) (fun h6 => ?_)
      · omega
      · refine z_aload_n d_m_enlist_9 10 rfl rfl rfl ?_
        refine zm_getA 8 d_m_enlist_10 13 rfl f_m_35 rfl ?_
        refine z_iload_n d_m_enlist_13 14 rfl rfl rfl ?_
        refine z_iconst (v := nI 1) d_m_enlist_14 15 rfl rfl ?_
        refine z_isubN d_m_enlist_15 16 rfl (by omega) ?_
        refine zm_iald d_m_enlist_16 17 rfl (by decide) rfl (by simp only [zln]; omega) ?_
        rw [show k + 1 - 1 = k by omega, hAk.1]
        refine z_iload_n d_m_enlist_17 18 rfl rfl rfl ?_
        refine z_icmp_leN (tgt := 27) d_m_enlist_18 21 rfl rfl (by omega) (by omega) (fun h18 => ?_) (fun h18 => ?_)
        · refine z_iload_n d_m_enlist_27 28 rfl rfl rfl ?_
          refine z_if_leN (tgt := 44) d_m_enlist_28 31 rfl rfl (by omega) (fun h28 => ?_) (fun h28 => ?_)
          · omega
          · refine z_aload_n d_m_enlist_31 32 rfl rfl rfl ?_
            refine zm_getA 8 d_m_enlist_32 35 rfl f_m_35 rfl ?_
            refine z_iload_n d_m_enlist_35 36 rfl rfl rfl ?_
            refine z_iconst (v := nI 1) d_m_enlist_36 37 rfl rfl ?_
            refine z_isubN d_m_enlist_37 38 rfl (by omega) ?_
            refine zm_iald d_m_enlist_38 39 rfl (by decide) rfl (by simp only [zln]; omega) ?_
            rw [show k + 1 - 1 = k by omega, hAk.1]
            refine z_iload_n d_m_enlist_39 40 rfl rfl rfl ?_
            refine z_icmp_neN (tgt := 44) d_m_enlist_40 43 rfl rfl (by omega) (by omega) (fun h40 => ?_) (fun h40 => ?_)
            · refine put (k + 1) hk (fun i hi => ?_) h2
              by_cases e : i = k
              · subst e; omega
              · have := SS_lt hS (i := i) (j := k) (by omega) (by omega)
                omega
            · have := hQ va vf L (fun _ _ => rfl) (fun _ _ => rfl) (fun x => ⟨Or.inr, fun h => h.elim (fun e => by rw [e, ← h40]; exact getD_mem (by omega)) id⟩) ⟨h9, h900, hS, hA⟩
              exact z_vret d_m_enlist_43 rfl (Nat.le_refl 0) (Nat.le_refl 0) this
        · refine z_inc2 d_m_enlist_21 24 rfl (show nI (k + 1) + Int32.ofInt (-1) = nI k from pk_m1 k) rfl ?_
          refine z_goto (tgt := 5) d_m_enlist_24 rfl ?_
          refine ih (by omega) (fun i hi1 hi2 => ?_)
          by_cases e : i = k
          · subst e; exact h18
          · exact h2 i (by omega) hi2
  refine z_aload_n d_m_enlist_0 1 rfl rfl rfl ?_
  refine zm_getF 9 d_m_enlist_1 4 rfl f_m_136 rfl ?_; try simp only [pk_us, pk_un, ne_eq, Nat.reduceEqDiff, not_false_eq_true]
  rw [h9]
  refine z_ist2 d_m_enlist_4 5 rfl rfl ?_
  exact loop1 L.length (Nat.le_refl _) (fun i h1 h2 => by omega)
end M12
end
section
/-! The reference: what is loose, told, wanted. Own work. -/
def clu (As : List (List Nat)) (nm : Int32) : Bool := As.any fun a => decide (sortM a = 3) && hasL 77 nm (lns a)
def needC : Option CV → List Nat
  | none => []
  | some c => if c.1 = 70 ∨ c.1 = 77 ∨ c.1 = 80 then c.2.2.2.1.toList ++ (if c.1 = 80 then c.2.2.2.2.1.toList else []) else []
def needA (bs : List Nat) : List Nat := if sortM bs = 1 ∨ sortM bs = 3 then (lns bs).flatMap needC else []
theorem cardG_n {g : Nat → Nat} {n : Nat} {c : CV} (h : cardG g n = some c) (h2 : c.1 = 70 ∨ c.1 = 77 ∨ c.1 = 80) : 8 ≤ n := by
  simp only [cardG] at h
  split at h
  next h3 =>
    have e := cardB_1 h
    rw [e] at h2
    simp only [cardB] at h
    split at h
    next => omega
    next =>
      split at h
      next =>
        simp only [card1] at h
        split at h
        · omega
        · cases h
      next =>
        split at h
        next =>
          simp only [cardF] at h
          split at h
          · omega
          · cases h
        next =>
          split at h
          next =>
            simp only [cardP] at h
            split at h
            · omega
            · split at h
              · omega
              · cases h
          next => omega
  next => cases h
theorem rdl_9 {bs : List Nat} {k e : Nat} {c : CV} (hk : k ≤ bs.length) (h : rdl bs k = some (e, some c)) (h2 : c.1 = 70 ∨ c.1 = 77 ∨ c.1 = 80) : k + 9 ≤ e := by
  simp only [rdl] at h
  split at h
  next h1 =>
    injection h with h
    injection h with h3 h4
    have := cardG_n h4 h2
    have := eol_le hk
    omega
  next => cases h
/-- what a well-formed text's cards are like -/
theorem wf_facts (bs : List Nat) : ∀ (g k : Nat) (cs cs' : List CV), bs.length ≤ k + g → k ≤ bs.length → wfF bs g k cs = some cs' →
    9 * (cnt 70 cs + cnt 77 cs + cnt 80 cs) ≤ k → cnt 80 cs ≤ 1 → (lastL cs < 80 → cnt 80 cs = 0) →
    9 * (cnt 70 cs' + cnt 77 cs' + cnt 80 cs') ≤ bs.length ∧ cnt 80 cs' ≤ 1 ∧ ∃ ds, cs' = cs ++ ds ∧ lnsF bs g k = ds.map some := by
  intro g
  induction g with
  | zero =>
    intro k cs cs' hg hk hw h1 h2 h3
    simp only [wfF] at hw
    cases hw
    exact ⟨by omega, h2, [], by simp, rfl⟩
  | succ g ih =>
    intro k cs cs' hg hk hw h1 h2 h3
    rw [wfF] at hw
    split at hw
    next hlt =>
      split at hw
      next e c hrd =>
        split at hw
        next hok =>
          obtain ⟨e1, e2, e3⟩ := rdl_some hk hrd
          obtain ⟨ho, hz⟩ := Bool.and_eq_true_iff.mp hok
          have c70 := cnt_snoc 70 cs c
          have c77 := cnt_snoc 77 cs c
          have c80 := cnt_snoc 80 cs c
          have hlast : lastL (cs ++ [c]) = c.1 := by simp [lastL]
          have hle : lastL cs ≤ c.1 ∧ (c.1 = 80 → lastL cs < 80) := by
            unfold okC at ho
            unfold lastL
            cases hl : cs.getLast? with
            | none => simp
            | some a =>
              rw [hl] at ho
              simp only [Bool.or_eq_true, decide_eq_true_eq, Bool.and_eq_true, grw] at ho
              simp only
              omega
          have h9 : c.1 = 70 ∨ c.1 = 77 ∨ c.1 = 80 → k + 9 ≤ e := rdl_9 hk hrd
          obtain ⟨r1, r2, ds, r3, r4⟩ := ih e (cs ++ [c]) cs' (by omega) e2 hw
            (by rw [c70, c77, c80]; (repeat' split) <;> omega)
            (by rw [c80]; split <;> omega)
            (by rw [hlast, c80]; intro h; rw [if_neg (by omega)]; have := h3 (by omega); omega)
          refine ⟨r1, r2, c :: ds, by rw [r3]; simp, ?_⟩
          rw [lnsF_some hlt hrd, r4]
          rfl
        next => cases hw
      next => cases hw
    next hge =>
      cases hw
      exact ⟨by omega, h2, [], by simp, lnsF_end (by omega)⟩
theorem wf_all {bs : List Nat} {cs : List CV} (h : wf bs = some cs) : lns bs = cs.map some ∧ 9 * (cnt 70 cs + cnt 77 cs + cnt 80 cs) ≤ bs.length ∧ cnt 80 cs ≤ 1 := by
  obtain ⟨h1, h2, ds, h3, h4⟩ := wf_facts bs bs.length 0 [] cs (by omega) (Nat.zero_le _) h (by simp [cnt]) (by simp [cnt]) (by simp [cnt])
  simp at h3
  subst h3
  exact ⟨h4, h1, h2⟩
theorem sort_wf {bs : List Nat} (h : sortM bs ≠ 0) : ∃ cs, wf bs = some cs ∧ sortM bs = sortC cs := by
  unfold sortM at h ⊢
  cases hw : wf bs with
  | none => rw [hw] at h; exact absurd rfl h
  | some cs => exact ⟨cs, rfl, rfl⟩
theorem need_len : ∀ cs : List CV, ((cs.map some).flatMap needC).length ≤ cnt 70 cs + cnt 77 cs + 2 * cnt 80 cs := by
  intro cs
  induction cs with
  | nil => simp
  | cons c t ih =>
    have hc : ∀ n, cnt n (c :: t) = (if c.1 = n then 1 else 0) + cnt n t := by
      intro n
      by_cases h : c.1 = n <;> simp [cnt, List.filter_cons, h] <;> omega
    rw [hc, hc, hc, List.map_cons, List.flatMap_cons, List.length_append]
    have h1 : c.2.2.2.1.toList.length ≤ 1 := by cases c.2.2.2.1 <;> simp
    have h2 : c.2.2.2.2.1.toList.length ≤ 1 := by cases c.2.2.2.2.1 <;> simp
    have h3 : (needC (some c)).length ≤ (if c.1 = 70 then 1 else 0) + (if c.1 = 77 then 1 else 0) + 2 * (if c.1 = 80 then 1 else 0) := by
      simp only [needC]
      by_cases h80 : c.1 = 80
      · rw [if_pos (Or.inr (Or.inr h80)), if_pos h80, List.length_append]
        simp [h80]
        omega
      · rw [if_neg h80, List.append_nil]
        split
        next h =>
          rcases h with h | h | h
          · simp [h] <;> omega
          · simp [h] <;> omega
          · exact absurd h h80
        next => simp
    omega
theorem needA_len {bs : List Nat} (h : bs.length ≤ 240) : (needA bs).length ≤ 27 := by
  unfold needA
  split
  next h1 =>
    obtain ⟨cs, hw, -⟩ := sort_wf (bs := bs) (by omega)
    obtain ⟨e, h2, h3⟩ := wf_all hw
    rw [e]
    have := need_len cs
    omega
  next => simp
/-- only the list has changed -/
def k8 (va va' : Nat → Nat → Int32) : Prop := ∀ j, j ≠ 8 → va' j = va j
theorem k8.slot {va va' : Nat → Nat → Int32} (h : k8 va va') {s : Nat} {bs : List Nat} (hr : slotP va s bs) : slotP va' s bs := by
  unfold slotP zrow
  rw [h 0 (by decide), h 1 (by decide)]
  exact hr
theorem k8.rep {va va' : Nat → Nat → Int32} (h : k8 va va') {r : Nat} {As : List (List Nat)} (hr : repP va r As) : repP va' r As :=
  ⟨hr.1, by rw [h 3 (by decide)]; exact hr.2.1, fun i hi => ⟨h.slot (hr.2.2 i hi).1, by rw [h 2 (by decide)]; exact (hr.2.2 i hi).2⟩⟩
theorem k8.trans {a b c : Nat → Nat → Int32} (h : k8 a b) (g : k8 b c) : k8 a c := fun j hj => (g j hj).trans (h j hj)
def toldP (va : Nat → Nat → Int32) (r : Nat) (T : List Nat) : Prop := va 5 r = nI T.length ∧ T.length ≤ 32 ∧ ∀ i, i < T.length → va 4 (32 * r + i) = nI (T.getD i 0) ∧ T.getD i 0 < 16777216
theorem k8.told {va va' : Nat → Nat → Int32} (h : k8 va va') {r : Nat} {T : List Nat} (hr : toldP va r T) : toldP va' r T := by
  unfold toldP
  rw [h 4 (by decide), h 5 (by decide)]
  exact hr
section M13
variable {l : Launch} {D : zD} {hp : zH} {o : Nat} {va : Nat → Nat → Int32} {vf : Nat → Int32} {Q : Option Value → zH → Prop}
theorem c_m_clustered (r : Nat) (nm : Int32) {As : List (List Nat)} (hr2 : r < 2) (hR : repP va r As)
    (hQ : ∀ f : Nat → Int32, f 9 = vf 9 → Q (some (.int (zb (clu As nm)))) (zmod D o hp va f)) : Runs l D M_m_clustered [.ref o, .int (nI r), .int nm] (zmod D o hp va vf) 0 0 Q := by
  refine Runs.of rfl rfl (Nat.le_of_ble_eq_true rfl) ?_
  obtain ⟨h32, hmany, hslot⟩ := hR
  refine z_iconst (v := nI 0) d_m_clustered_0 1 rfl rfl ?_
  refine z_ist3 d_m_clustered_1 2 rfl rfl ?_
  refine z_bipush (v := nI 32) d_m_clustered_2 4 rfl rfl ?_
  refine z_iload_n d_m_clustered_4 5 rfl rfl rfl ?_
  first | refine z_imulN d_m_clustered_5 6 rfl ?_ | refine z_imul d_m_clustered_5 6 rfl ?_
  refine z_ist4 d_m_clustered_6 8 rfl rfl ?_
  have loop : ∀ (c j : Nat) (b : Bool) (f : Nat → Int32), j + c = As.length → f 9 = vf 9 → clu As nm = (b || clu (As.drop j) nm) → Z l D M_m_clustered 0 0 Q (zmod D o hp va f) 0 0 8 [some (.ref o), some (.int (nI r)), some (.int nm), some (.int (zb b)), some (.int (nI (32 * r + j)))] [] := by
    intro c
    induction c with
    | zero =>
      intro j b f hj hf he
      refine z_iload d_m_clustered_8 10 rfl rfl ?_
      refine z_bipush (v := nI 32) d_m_clustered_10 12 rfl rfl ?_
      refine z_iload_n d_m_clustered_12 13 rfl rfl rfl ?_
      first | refine z_imulN d_m_clustered_13 14 rfl ?_ | refine z_imul d_m_clustered_13 14 rfl ?_
      refine z_aload_n d_m_clustered_14 15 rfl rfl rfl ?_
      refine zm_getA 3 d_m_clustered_15 18 rfl f_m_20 rfl ?_
      refine z_iload_n d_m_clustered_18 19 rfl rfl rfl ?_
      refine zm_iald d_m_clustered_19 20 rfl (by decide) rfl (by simp only [zln]; omega) ?_
      rw [hmany]
      first | refine z_iaddN d_m_clustered_20 21 rfl ?_ | refine z_iadd d_m_clustered_20 21 rfl ?_
      refine z_icmp_geN (tgt := 62) d_m_clustered_21 24 rfl rfl (by omega) (by omega) (fun h21 => ?_) (fun h21 => ?_)
      · rw [List.drop_eq_nil_of_le (by omega), show clu [] nm = false from rfl, Bool.or_false] at he
        refine z_iload_n d_m_clustered_62 63 rfl rfl rfl ?_
        exact z_zretB d_m_clustered_63 rfl (Nat.le_refl 0) (Nat.le_refl 0) (by rw [← he]; exact hQ f hf)
      · omega
    | succ c ih =>
      intro j b f hj hf he
      have h3 := sortM_le (As.getD j [])
      refine z_iload d_m_clustered_8 10 rfl rfl ?_
      refine z_bipush (v := nI 32) d_m_clustered_10 12 rfl rfl ?_
      refine z_iload_n d_m_clustered_12 13 rfl rfl rfl ?_
      first | refine z_imulN d_m_clustered_13 14 rfl ?_ | refine z_imul d_m_clustered_13 14 rfl ?_
      refine z_aload_n d_m_clustered_14 15 rfl rfl rfl ?_
      refine zm_getA 3 d_m_clustered_15 18 rfl f_m_20 rfl ?_
      refine z_iload_n d_m_clustered_18 19 rfl rfl rfl ?_
      refine zm_iald d_m_clustered_19 20 rfl (by decide) rfl (by simp only [zln]; omega) ?_
      rw [hmany]
      first | refine z_iaddN d_m_clustered_20 21 rfl ?_ | refine z_iadd d_m_clustered_20 21 rfl ?_
      refine z_icmp_geN (tgt := 62) d_m_clustered_21 24 rfl rfl (by omega) (by omega) (fun h21 => ?_) (fun h21 => ?_)
      · omega
      · rw [drop_cons (by omega), show ∀ a t, clu (a :: t) nm = ((decide (sortM a = 3) && hasL 77 nm (lns a)) || clu t nm) from fun _ _ => rfl] at he
        refine z_iload_n d_m_clustered_24 25 rfl rfl rfl ?_
        refine z_if_neB (tgt := 62) d_m_clustered_25 28 rfl rfl (fun h25 => ?_) (fun h25 => ?_)
        · subst h25
          rw [Bool.true_or] at he
          refine z_iload_n d_m_clustered_62 63 rfl rfl rfl ?_
          exact z_zretB d_m_clustered_63 rfl (Nat.le_refl 0) (Nat.le_refl 0) (by rw [← he]; exact hQ f hf)
        · subst h25
          rw [Bool.false_or] at he
          obtain ⟨hsl, -⟩ := hslot j (by omega)
          have fin : ∀ (b' : Bool) (g : Nat → Int32), g 9 = vf 9 → b' = (decide (sortM (As.getD j []) = 3) && hasL 77 nm (lns (As.getD j []))) → Z l D M_m_clustered 0 0 Q (zmod D o hp va g) 0 0 55 [some (.ref o), some (.int (nI r)), some (.int nm), some (.int (zb false)), some (.int (nI (32 * r + j)))] [.int (zb b')] := by
            intro b' g hg hb'
            refine z_ist3 d_m_clustered_55 56 rfl rfl ?_
            first | refine z_incN4 d_m_clustered_56 59 rfl rfl ?_ | refine z_inc4 d_m_clustered_56 59 rfl rfl rfl ?_
            refine z_goto (tgt := 8) d_m_clustered_59 rfl ?_
            exact ih (j + 1) b' g (by omega) hg (by rw [he, hb'])
          refine z_aload_n d_m_clustered_28 29 rfl rfl rfl ?_
          refine z_iload d_m_clustered_29 31 rfl rfl ?_
          refine zm_cV (fun v a f' => v = .int (nI (sortM (As.getD j []))) ∧ va = a ∧ f' 9 = f 9) d_m_clustered_31 34 rfl mv_m_sort kl_m_101 (by decide) (fun Q' h => c_m_sort _ hsl (by omega) (fun f h1 => h _ _ _ ⟨rfl, rfl, h1⟩)) rfl rfl (Nat.le_of_ble_eq_true rfl) ?_; rintro _ _ f1 ⟨rfl, rfl, i1⟩
          refine z_iconst (v := nI 3) d_m_clustered_34 35 rfl rfl ?_
          refine z_icmp_neN (tgt := 54) d_m_clustered_35 38 rfl rfl (by omega) (by omega) (fun h35 => ?_) (fun h35 => ?_)
          · refine z_iconst (v := nI 0) d_m_clustered_54 55 rfl rfl ?_
            exact fin false f1 (i1.trans hf) (by rw [decide_eq_false h35, Bool.false_and])
          · refine z_aload_n d_m_clustered_38 39 rfl rfl rfl ?_
            refine z_iload d_m_clustered_39 41 rfl rfl ?_
            refine z_bipush (v := nI 77) d_m_clustered_41 43 rfl rfl ?_
            refine z_iload_n d_m_clustered_43 44 rfl rfl rfl ?_
            refine zm_cV (fun v a f' => v = .int (zb (hasL 77 nm (lns (As.getD j [])))) ∧ va = a ∧ f' 9 = f1 9) d_m_clustered_44 47 rfl mv_m_has kl_m_108 (by decide) (fun Q' h => c_m_has _ 77 _ hsl (by omega) (by decide) (fun f h1 => h _ _ _ ⟨rfl, rfl, h1⟩)) rfl rfl (Nat.le_of_ble_eq_true rfl) ?_; rintro _ _ f2 ⟨rfl, rfl, i2⟩
            refine z_if_eqB (tgt := 54) d_m_clustered_47 50 rfl rfl (fun h47 => ?_) (fun h47 => ?_)
            · refine z_iconst (v := nI 0) d_m_clustered_54 55 rfl rfl ?_
              exact fin false f2 (i2.trans (i1.trans hf)) (by rw [h47, Bool.and_false])
            · refine z_iconst (v := nI 1) d_m_clustered_50 51 rfl rfl ?_
              refine z_goto (tgt := 55) d_m_clustered_51 rfl ?_
              exact fin true f2 (i2.trans (i1.trans hf)) (by rw [h47, h35]; rfl)
  exact loop As.length 0 false vf (by omega) rfl (by rw [Bool.false_or]; rfl)
theorem c_m_listLoose (r : Nat) {As : List (List Nat)} (hr2 : r < 2) (hR : repP va r As)
    (hQ : ∀ (va' : Nat → Nat → Int32) (f : Nat → Int32) (L : List Nat), k8 va va' → (∀ x, x ∈ L ↔ ∃ a, a ∈ As ∧ dg 7 a = x ∧ clu As (nI x) = false) → L.length ≤ 32 → listP va' f L → Q none (zmod D o hp va' f)) : Runs l D M_m_listLoose [.ref o, .int (nI r)] (zmod D o hp va vf) 0 0 Q := by
  refine Runs.of rfl rfl (Nat.le_of_ble_eq_true rfl) ?_
  have h32 := hR.1
  refine z_aload_n d_m_listLoose_0 1 rfl rfl rfl ?_
  refine z_iconst (v := nI 0) d_m_listLoose_1 2 rfl rfl ?_
  refine zm_putF 9 d_m_listLoose_2 5 rfl (p_m_136 _) (by decide) (by decide) ?_
  refine z_bipush (v := nI 32) d_m_listLoose_5 7 rfl rfl ?_
  refine z_iload_n d_m_listLoose_7 8 rfl rfl rfl ?_
  first | refine z_imulN d_m_listLoose_8 9 rfl ?_ | refine z_imul d_m_listLoose_8 9 rfl ?_
  refine z_ist2 d_m_listLoose_9 10 rfl rfl ?_
  have loop : ∀ (c j : Nat) (x : Nat → Nat → Int32) (f : Nat → Int32) (L : List Nat), j + c = As.length → k8 va x → (∀ y, y ∈ L ↔ ∃ a, a ∈ As.take j ∧ dg 7 a = y ∧ clu As (nI y) = false) → listP x f L → Z l D M_m_listLoose 0 0 Q (zmod D o hp x f) 0 0 10 [some (.ref o), some (.int (nI r)), some (.int (nI (32 * r + j)))] [] := by
    intro c
    induction c with
    | zero =>
      intro j x f L hj hx hm hL
      have hRx := hx.rep hR
      refine z_iload_n d_m_listLoose_10 11 rfl rfl rfl ?_
      refine z_bipush (v := nI 32) d_m_listLoose_11 13 rfl rfl ?_
      refine z_iload_n d_m_listLoose_13 14 rfl rfl rfl ?_
      first | refine z_imulN d_m_listLoose_14 15 rfl ?_ | refine z_imul d_m_listLoose_14 15 rfl ?_
      refine z_aload_n d_m_listLoose_15 16 rfl rfl rfl ?_
      refine zm_getA 3 d_m_listLoose_16 19 rfl f_m_20 rfl ?_
      refine z_iload_n d_m_listLoose_19 20 rfl rfl rfl ?_
      refine zm_iald d_m_listLoose_20 21 rfl (by decide) rfl (by simp only [zln]; omega) ?_
      rw [hRx.2.1]
      first | refine z_iaddN d_m_listLoose_21 22 rfl ?_ | refine z_iadd d_m_listLoose_21 22 rfl ?_
      refine z_icmp_geN (tgt := 55) d_m_listLoose_22 25 rfl rfl (by omega) (by omega) (fun h22 => ?_) (fun h22 => ?_)
      · rw [List.take_of_length_le (by omega)] at hm
        have hl : L.length ≤ (As.map (dg 7)).length := SS_len hL.2.2.1 (fun y hy => by obtain ⟨a, h1, h2, -⟩ := (hm y).1 hy; exact List.mem_map.mpr ⟨a, h1, h2⟩)
        rw [List.length_map] at hl
        exact z_vret d_m_listLoose_55 rfl (Nat.le_refl 0) (Nat.le_refl 0) (hQ x f L hx hm (by omega) hL)
      · omega
    | succ c ih =>
      intro j x f L hj hx hm hL
      have hRx := hx.rep hR
      have hd := dg7 (As.getD j [])
      have hl : L.length ≤ ((As.take j).map (dg 7)).length := SS_len hL.2.2.1 (fun y hy => by obtain ⟨a, h1, h2, -⟩ := (hm y).1 hy; exact List.mem_map.mpr ⟨a, h1, h2⟩)
      rw [List.length_map, List.length_take] at hl
      have htk : As.take (j + 1) = As.take j ++ [As.getD j []] := by
        rw [List.take_add_one, show As[j]? = some (As.getD j []) by rw [List.getD_eq_getElem?_getD, List.getElem?_eq_getElem (by omega)]; rfl]
        rfl
      refine z_iload_n d_m_listLoose_10 11 rfl rfl rfl ?_
      refine z_bipush (v := nI 32) d_m_listLoose_11 13 rfl rfl ?_
      refine z_iload_n d_m_listLoose_13 14 rfl rfl rfl ?_
      first | refine z_imulN d_m_listLoose_14 15 rfl ?_ | refine z_imul d_m_listLoose_14 15 rfl ?_
      refine z_aload_n d_m_listLoose_15 16 rfl rfl rfl ?_
      refine zm_getA 3 d_m_listLoose_16 19 rfl f_m_20 rfl ?_
      refine z_iload_n d_m_listLoose_19 20 rfl rfl rfl ?_
      refine zm_iald d_m_listLoose_20 21 rfl (by decide) rfl (by simp only [zln]; omega) ?_
      rw [hRx.2.1]
      first | refine z_iaddN d_m_listLoose_21 22 rfl ?_ | refine z_iadd d_m_listLoose_21 22 rfl ?_
      refine z_icmp_geN (tgt := 55) d_m_listLoose_22 25 rfl rfl (by omega) (by omega) (fun h22 => ?_) (fun h22 => ?_)
      · omega
      · refine z_aload_n d_m_listLoose_25 26 rfl rfl rfl ?_
        refine z_iload_n d_m_listLoose_26 27 rfl rfl rfl ?_
        refine z_aload_n d_m_listLoose_27 28 rfl rfl rfl ?_
        refine zm_getA 2 d_m_listLoose_28 31 rfl f_m_17 rfl ?_
        refine z_iload_n d_m_listLoose_31 32 rfl rfl rfl ?_
        refine zm_iald d_m_listLoose_32 33 rfl (by decide) rfl (by simp only [zln]; omega) ?_
        rw [(hRx.2.2 j (by omega)).2]
        refine zm_cV (fun v a f' => v = .int (zb (clu As (nI (dg 7 (As.getD j []))))) ∧ x = a ∧ f' 9 = f 9) d_m_listLoose_33 36 rfl mv_m_clustered kl_m_139 (by decide) (fun Q' h => c_m_clustered r _ hr2 hRx (fun f h1 => h _ _ _ ⟨rfl, rfl, h1⟩)) rfl rfl (Nat.le_of_ble_eq_true rfl) ?_; rintro _ _ f1 ⟨rfl, rfl, i1⟩
        have hL1 : listP x f1 L := ⟨i1.trans hL.1, hL.2⟩
        refine z_if_neB (tgt := 49) d_m_listLoose_36 39 rfl rfl (fun h36 => ?_) (fun h36 => ?_)
        · first | refine z_incN2 d_m_listLoose_49 52 rfl rfl ?_ | refine z_inc2 d_m_listLoose_49 52 rfl rfl rfl ?_
          refine z_goto (tgt := 10) d_m_listLoose_52 rfl ?_
          refine ih (j + 1) x f1 L (by omega) hx (fun y => ?_) hL1
          rw [hm y, htk]
          constructor
          · rintro ⟨a, h1, h2⟩
            exact ⟨a, List.mem_append_left _ h1, h2⟩
          · rintro ⟨a, h1, h2, h3⟩
            rcases List.mem_append.mp h1 with h1 | h1
            · exact ⟨a, h1, h2, h3⟩
            · rw [List.mem_singleton.mp h1] at h2
              rw [← h2, h36] at h3
              cases h3
        · refine z_aload_n d_m_listLoose_39 40 rfl rfl rfl ?_
          refine z_aload_n d_m_listLoose_40 41 rfl rfl rfl ?_
          refine zm_getA 2 d_m_listLoose_41 44 rfl f_m_17 rfl ?_
          refine z_iload_n d_m_listLoose_44 45 rfl rfl rfl ?_
          refine zm_iald d_m_listLoose_45 46 rfl (by decide) rfl (by simp only [zln]; omega) ?_
          rw [(hRx.2.2 j (by omega)).2]
          refine zm_cVv (fun a f' => ∃ L', k8 x a ∧ (∀ y, y ∈ L' ↔ y = dg 7 (As.getD j []) ∨ y ∈ L) ∧ listP a f' L') d_m_listLoose_46 49 rfl mv_m_enlist kl_m_142 (by decide) (fun Q' h => c_m_enlist _ (by omega) hL1 (by omega) (fun a f L' h1 h2 h3 h4 => h _ _ ⟨L', h1, h3, h4⟩)) rfl rfl (Nat.le_of_ble_eq_true rfl) ?_; rintro x2 f2 ⟨L2, i2, i3, i4⟩
          first | refine z_incN2 d_m_listLoose_49 52 rfl rfl ?_ | refine z_inc2 d_m_listLoose_49 52 rfl rfl rfl ?_
          refine z_goto (tgt := 10) d_m_listLoose_52 rfl ?_
          refine ih (j + 1) x2 f2 L2 (by omega) (hx.trans i2) (fun y => ?_) i4
          rw [i3 y, hm y, htk]
          constructor
          · rintro (h | ⟨a, h1, h2⟩)
            · exact ⟨_, List.mem_append_right _ (List.mem_singleton.mpr rfl), h.symm, by rw [h]; exact h36⟩
            · exact ⟨a, List.mem_append_left _ h1, h2⟩
          · rintro ⟨a, h1, h2, h3⟩
            rcases List.mem_append.mp h1 with h1 | h1
            · exact Or.inr ⟨a, h1, h2, h3⟩
            · rw [List.mem_singleton.mp h1] at h2
              exact Or.inl h2.symm
  exact loop As.length 0 va _ [] (by omega) (fun _ _ => rfl) (fun y => by simp) ⟨by rw [pk_us]; rfl, by simp, List.Pairwise.nil, fun i hi => by simp at hi⟩
theorem c_m_lack (r : Nat) (x : Option Nat) {As : List (List Nat)} {L : List Nat} (hr2 : r < 2) (hR : repP va r As) (hx : ∀ v, x = some v → v < 16777216) (hL : listP va vf L) (hlen : L.length < 900)
    (hQ : ∀ (va' : Nat → Nat → Int32) (f : Nat → Int32) (L' : List Nat), k8 va va' → (∀ j, j ≠ 9 → f j = vf j) → (∀ y, y ∈ L' ↔ (x = some y ∧ lk As (nI y) = none) ∨ y ∈ L) → listP va' f L' → Q none (zmod D o hp va' f)) : Runs l D M_m_lack [.ref o, .int (nI r), .int (oI x)] (zmod D o hp va vf) 0 0 Q := by
  refine Runs.of rfl rfl (Nat.le_of_ble_eq_true rfl) ?_
  have h32 := hR.1
  refine z_iload_n d_m_lack_0 1 rfl rfl rfl ?_
  refine z_if_ltO (tgt := 18) d_m_lack_1 4 rfl rfl (fun v h => by have := hx v h; omega) (fun h1 => ?_) (fun w1 h1 => ?_)
  · exact z_vret d_m_lack_18 rfl (Nat.le_refl 0) (Nat.le_refl 0) (hQ va vf L (fun _ _ => rfl) (fun _ _ => rfl) (fun y => by rw [h1]; simp) hL)
  · have hv := hx _ h1
    subst h1
    obtain ⟨j1, j2⟩ := fnd_lk (nI w1) As (32 * r)
    refine z_aload_n d_m_lack_4 5 rfl rfl rfl ?_
    refine z_iload_n d_m_lack_5 6 rfl rfl rfl ?_
    refine z_iload_n d_m_lack_6 7 rfl rfl rfl ?_
    refine zm_cV1 d_m_lack_7 10 rfl mv_m_find kl_m_98 (by decide) (fun Q' h => c_m_find r _ hr2 hR h) rfl rfl (Nat.le_of_ble_eq_true rfl) ?_
    refine z_if_geO (tgt := 18) d_m_lack_10 13 rfl rfl (fun v h => by obtain ⟨h1, h2, -⟩ := j2 v h; omega) (fun w10 h10 => ?_) (fun h10 => ?_)
    · obtain ⟨-, -, b3, -⟩ := j2 _ h10
      exact z_vret d_m_lack_18 rfl (Nat.le_refl 0) (Nat.le_refl 0) (hQ va vf L (fun _ _ => rfl) (fun _ _ => rfl) (fun y => ⟨Or.inr, fun h => h.elim (fun e => by obtain ⟨e1, e2⟩ := e; cases e1; rw [b3] at e2; cases e2) id⟩) hL)
    · rw [show oI (some w1) = nI w1 from rfl]
      refine z_aload_n d_m_lack_13 14 rfl rfl rfl ?_
      refine z_iload_n d_m_lack_14 15 rfl rfl rfl ?_
      refine zm_cVv (fun a f' => ∃ L', k8 va a ∧ (∀ j, j ≠ 9 → f' j = vf j) ∧ (∀ y, y ∈ L' ↔ y = w1 ∨ y ∈ L) ∧ listP a f' L') d_m_lack_15 18 rfl mv_m_enlist kl_m_142 (by decide) (fun Q' h => c_m_enlist _ hv hL hlen (fun a f L' h1 h2 h3 h4 => h _ _ ⟨L', h1, h2, h3, h4⟩)) rfl rfl (Nat.le_of_ble_eq_true rfl) ?_; rintro x2 f2 ⟨L2, i2, i3, i4, i5⟩
      exact z_vret d_m_lack_18 rfl (Nat.le_refl 0) (Nat.le_refl 0) (hQ x2 f2 L2 i2 i3 (fun y => by rw [i4 y]; constructor; (rintro (h | h); (exact Or.inl ⟨by rw [h], by rw [h]; exact j1 h10⟩); (exact Or.inr h)); (rintro (⟨h, -⟩ | h); (cases h; exact Or.inl rfl); (exact Or.inr h))) i5)
theorem c_m_tell (r n : Nat) {As : List (List Nat)} {T : List Nat} (hr2 : r < 2) (hn : n < 16777216) (hR : repP va r As) (hT : toldP va r T) (hroom : lk As (nI n) = none → n ∉ T → T.length < 32)
    (hQ0 : (lk As (nI n) ≠ none ∨ n ∈ T) → Q none (zmod D o hp va vf))
    (hQ : lk As (nI n) = none → n ∉ T → ∀ va' : Nat → Nat → Int32, (∀ j, j ≠ 4 → j ≠ 5 → va' j = va j) → (∀ q, q ≠ r → va' 5 q = va 5 q) → (∀ i, i ≠ 32 * r + T.length → va' 4 i = va 4 i) → toldP va' r (T ++ [n]) → Q none (zmod D o hp va' vf)) : Runs l D M_m_tell [.ref o, .int (nI r), .int (nI n)] (zmod D o hp va vf) 0 0 Q := by
  refine Runs.of rfl rfl (Nat.le_of_ble_eq_true rfl) ?_
  have h32 := hR.1
  obtain ⟨t1, t2, t3⟩ := hT
  obtain ⟨j1, j2⟩ := fnd_lk (nI n) As (32 * r)
  refine z_aload_n d_m_tell_0 1 rfl rfl rfl ?_
  refine z_iload_n d_m_tell_1 2 rfl rfl rfl ?_
  refine z_iload_n d_m_tell_2 3 rfl rfl rfl ?_
  refine zm_cV1 d_m_tell_3 6 rfl mv_m_find kl_m_98 (by decide) (fun Q' h => c_m_find r _ hr2 hR h) rfl rfl (Nat.le_of_ble_eq_true rfl) ?_
  refine z_if_ltO (tgt := 10) d_m_tell_6 9 rfl rfl (fun v h => by obtain ⟨h1, h2, -⟩ := j2 v h; omega) (fun h6 => ?_) (fun w6 h6 => ?_)
  · refine z_iconst (v := nI 0) d_m_tell_10 11 rfl rfl ?_
    refine z_ist3 d_m_tell_11 12 rfl rfl ?_
    have loop : ∀ (c j : Nat), j + c = T.length → (∀ i, i < j → T.getD i 0 ≠ n) → Z l D M_m_tell 0 0 Q (zmod D o hp va vf) 0 0 12 [some (.ref o), some (.int (nI r)), some (.int (nI n)), some (.int (nI j))] [] := by
      intro c
      induction c with
      | zero =>
        intro j hj hno
        have hnT : n ∉ T := fun h => by obtain ⟨i, hi, e⟩ := mem_getD h; exact hno i (by omega) e
        have hlt := hroom (j1 h6) hnT
        refine z_iload_n d_m_tell_12 13 rfl rfl rfl ?_
        refine z_aload_n d_m_tell_13 14 rfl rfl rfl ?_
        refine zm_getA 5 d_m_tell_14 17 rfl f_m_26 rfl ?_
        refine z_iload_n d_m_tell_17 18 rfl rfl rfl ?_
        refine zm_iald d_m_tell_18 19 rfl (by decide) rfl (by simp only [zln]; omega) ?_
        rw [t1]
        refine z_icmp_geN (tgt := 44) d_m_tell_19 22 rfl rfl (by omega) (by omega) (fun h19 => ?_) (fun h19 => ?_)
        · refine z_aload_n d_m_tell_44 45 rfl rfl rfl ?_
          refine zm_getA 4 d_m_tell_45 48 rfl f_m_23 rfl ?_
          refine z_bipush (v := nI 32) d_m_tell_48 50 rfl rfl ?_
          refine z_iload_n d_m_tell_50 51 rfl rfl rfl ?_
          first | refine z_imulN d_m_tell_51 52 rfl ?_ | refine z_imul d_m_tell_51 52 rfl ?_
          refine z_aload_n d_m_tell_52 53 rfl rfl rfl ?_
          refine zm_getA 5 d_m_tell_53 56 rfl f_m_26 rfl ?_
          refine z_iload_n d_m_tell_56 57 rfl rfl rfl ?_
          refine zm_iald d_m_tell_57 58 rfl (by decide) rfl (by simp only [zln]; omega) ?_
          rw [t1]
          first | refine z_iaddN d_m_tell_58 59 rfl ?_ | refine z_iadd d_m_tell_58 59 rfl ?_
          refine z_iload_n d_m_tell_59 60 rfl rfl rfl ?_
          refine zm_iast d_m_tell_60 61 rfl (by decide) rfl (by simp only [zln]; omega) ?_
          refine z_aload_n d_m_tell_61 62 rfl rfl rfl ?_
          refine zm_getA 5 d_m_tell_62 65 rfl f_m_26 rfl ?_
          refine z_iload_n d_m_tell_65 66 rfl rfl rfl ?_
          refine z_dup2 d_m_tell_66 67 rfl rfl rfl ?_
          refine zm_iald d_m_tell_67 68 rfl (by decide) rfl (by simp only [zln]; omega) ?_
          rw [show va_up va 4 (upd (va 4) (32 * r + T.length) (nI n)) 5 r = nI T.length from t1]
          refine z_iconst (v := nI 1) d_m_tell_68 69 rfl rfl ?_
          first | refine z_iaddN d_m_tell_69 70 rfl ?_ | refine z_iadd d_m_tell_69 70 rfl ?_
          refine zm_iast d_m_tell_70 71 rfl (by decide) rfl (by simp only [zln]; omega) ?_
          refine ?_
          have := hQ (j1 h6) hnT (va_up (va_up va 4 (upd (va 4) (32 * r + T.length) (nI n))) 5 (upd (va_up va 4 (upd (va 4) (32 * r + T.length) (nI n)) 5) r (nI (T.length + 1)))) (fun j h1 h2 => by simp only [va_up]; rw [if_neg h2, if_neg h1]) (fun q hq => by show upd (va 5) r _ q = _; exact pk_un hq) (fun i hi => by show upd (va 4) _ _ i = _; exact pk_un hi) ⟨by show upd (va 5) r _ r = _; rw [pk_us]; simp, by simp; omega, fun i hi => by
            simp at hi
            show upd (va 4) (32 * r + T.length) (nI n) (32 * r + i) = _ ∧ _
            by_cases e : i = T.length
            · subst e
              rw [pk_us]
              simp [hn]
            · rw [pk_un (by omega), show (T ++ [n]).getD i 0 = T.getD i 0 by simp [List.getElem?_append_left (show i < T.length by omega)]]
              exact t3 i (by omega)⟩
          exact z_vret d_m_tell_71 rfl (Nat.le_refl 0) (Nat.le_refl 0) this
        · omega
      | succ c ih =>
        intro j hj hno
        have h3 := t3 j (by omega)
        refine z_iload_n d_m_tell_12 13 rfl rfl rfl ?_
        refine z_aload_n d_m_tell_13 14 rfl rfl rfl ?_
        refine zm_getA 5 d_m_tell_14 17 rfl f_m_26 rfl ?_
        refine z_iload_n d_m_tell_17 18 rfl rfl rfl ?_
        refine zm_iald d_m_tell_18 19 rfl (by decide) rfl (by simp only [zln]; omega) ?_
        rw [t1]
        refine z_icmp_geN (tgt := 44) d_m_tell_19 22 rfl rfl (by omega) (by omega) (fun h19 => ?_) (fun h19 => ?_)
        · omega
        · refine z_aload_n d_m_tell_22 23 rfl rfl rfl ?_
          refine zm_getA 4 d_m_tell_23 26 rfl f_m_23 rfl ?_
          refine z_bipush (v := nI 32) d_m_tell_26 28 rfl rfl ?_
          refine z_iload_n d_m_tell_28 29 rfl rfl rfl ?_
          first | refine z_imulN d_m_tell_29 30 rfl ?_ | refine z_imul d_m_tell_29 30 rfl ?_
          refine z_iload_n d_m_tell_30 31 rfl rfl rfl ?_
          first | refine z_iaddN d_m_tell_31 32 rfl ?_ | refine z_iadd d_m_tell_31 32 rfl ?_
          refine zm_iald d_m_tell_32 33 rfl (by decide) rfl (by simp only [zln]; omega) ?_
          rw [h3.1]
          refine z_iload_n d_m_tell_33 34 rfl rfl rfl ?_
          refine z_icmp_neN (tgt := 38) d_m_tell_34 37 rfl rfl (by omega) (by omega) (fun h34 => ?_) (fun h34 => ?_)
          · first | refine z_incN3 d_m_tell_38 41 rfl rfl ?_ | refine z_inc3 d_m_tell_38 41 rfl rfl rfl ?_
            refine z_goto (tgt := 12) d_m_tell_41 rfl ?_
            exact ih (j + 1) (by omega) (fun i hi => by by_cases e : i = j; (rw [e]; exact h34); (exact hno i (by omega)))
          · exact z_vret d_m_tell_37 rfl (Nat.le_refl 0) (Nat.le_refl 0) (hQ0 (Or.inr (by rw [← h34]; exact getD_mem (by omega))))
    exact loop T.length 0 (by omega) (fun i hi => by omega)
  · exact z_vret d_m_tell_9 rfl (Nat.le_refl 0) (Nat.le_refl 0) (hQ0 (Or.inl (by obtain ⟨-, -, b3, -⟩ := j2 _ h6; rw [b3]; simp)))
theorem c_m_listWanted (r : Nat) {As : List (List Nat)} {T : List Nat} (hr2 : r < 2) (hR : repP va r As) (hT : toldP va r T)
    (hQ : ∀ (va' : Nat → Nat → Int32) (f : Nat → Int32) (L : List Nat), k8 va va' → (∀ x, x ∈ L ↔ (x ∈ T ∨ ∃ a, a ∈ As ∧ x ∈ needA a) ∧ lk As (nI x) = none) → L.length < 900 → listP va' f L → Q none (zmod D o hp va' f)) : Runs l D M_m_listWanted [.ref o, .int (nI r)] (zmod D o hp va vf) 0 0 Q := by
  refine Runs.of rfl rfl (Nat.le_of_ble_eq_true rfl) ?_
  have h32 := hR.1
  obtain ⟨t1, t2, t3⟩ := hT
  have hU : (T ++ As.flatMap needA).length < 900 := by
    have : ∀ B : List (List Nat), (∀ a, a ∈ B → a.length ≤ 240) → (B.flatMap needA).length ≤ 27 * B.length := by
      intro B
      induction B with
      | nil => intro _; simp
      | cons a t ih =>
        intro h
        have h1 := needA_len (h a List.mem_cons_self)
        have h2 := ih (fun b hb => h b (List.mem_cons_of_mem _ hb))
        simp only [List.flatMap_cons, List.length_append, List.length_cons]
        omega
    have h := this As (fun a ha => by
      obtain ⟨i, hi, e⟩ := List.getElem_of_mem ha
      have := (hR.2.2 i hi).1.2.2
      rw [List.getD_eq_getElem?_getD, List.getElem?_eq_getElem hi] at this
      rw [← e]
      exact this)
    rw [List.length_append]
    omega
  have hlen : ∀ (L : List Nat), SS L → (∀ x, x ∈ L → x ∈ T ∨ ∃ a, a ∈ As ∧ x ∈ needA a) → L.length < 900 := by
    intro L hS h
    refine Nat.lt_of_le_of_lt (SS_len hS fun x hx => ?_) hU
    rcases h x hx with h | ⟨a, h1, h2⟩
    · exact List.mem_append_left _ h
    · exact List.mem_append_right _ (List.mem_flatMap.mpr ⟨a, h1, h2⟩)
  -- the artifacts
  have loop2 : ∀ (c j : Nat) (x : Nat → Nat → Int32) (f : Nat → Int32) (L : List Nat) (z3 z4 z5 : Option Value), j + c = As.length → k8 va x → (∀ y, y ∈ L ↔ (y ∈ T ∨ ∃ a, a ∈ As.take j ∧ y ∈ needA a) ∧ lk As (nI y) = none) → listP x f L → (∀ v, z3 = some v → v.category = 1) → (∀ v, z4 = some v → v.category = 1) → Z l D M_m_listWanted 0 0 Q (zmod D o hp x f) 0 0 44 [some (.ref o), some (.int (nI r)), some (.int (nI (32 * r + j))), z3, z4, z5] [] := by
    intro c
    induction c with
    | zero =>
      intro j x f L z3 z4 z5 hj hx hm hL hz3 hz4
      have hRx := hx.rep hR
      refine z_iload_n d_m_listWanted_44 45 rfl rfl rfl ?_
      refine z_bipush (v := nI 32) d_m_listWanted_45 47 rfl rfl ?_
      refine z_iload_n d_m_listWanted_47 48 rfl rfl rfl ?_
      first | refine z_imulN d_m_listWanted_48 49 rfl ?_ | refine z_imul d_m_listWanted_48 49 rfl ?_
      refine z_aload_n d_m_listWanted_49 50 rfl rfl rfl ?_
      refine zm_getA 3 d_m_listWanted_50 53 rfl f_m_20 rfl ?_
      refine z_iload_n d_m_listWanted_53 54 rfl rfl rfl ?_
      refine zm_iald d_m_listWanted_54 55 rfl (by decide) rfl (by simp only [zln]; omega) ?_
      rw [hRx.2.1]
      first | refine z_iaddN d_m_listWanted_55 56 rfl ?_ | refine z_iadd d_m_listWanted_55 56 rfl ?_
      refine z_icmp_geN (tgt := 176) d_m_listWanted_56 59 rfl rfl (by omega) (by omega) (fun h56 => ?_) (fun h56 => ?_)
      · rw [List.take_of_length_le (by omega)] at hm
        exact z_vret d_m_listWanted_176 rfl (Nat.le_refl 0) (Nat.le_refl 0) (hQ x f L hx hm (hlen L hL.2.2.1 (fun y hy => ((hm y).1 hy).1)) hL)
      · omega
    | succ c ih =>
      intro j x f L z3 z4 z5 hj hx hm hL hz3 hz4
      have hRx := hx.rep hR
      have h3 := sortM_le (As.getD j [])
      obtain ⟨hsl, -⟩ := hRx.2.2 j (by omega)
      have hmem : As.getD j [] ∈ As := by rw [List.getD_eq_getElem?_getD, List.getElem?_eq_getElem (show j < As.length by omega)]; exact List.getElem_mem _
      have htk : As.take (j + 1) = As.take j ++ [As.getD j []] := by
        rw [List.take_add_one, show As[j]? = some (As.getD j []) by rw [List.getD_eq_getElem?_getD, List.getElem?_eq_getElem (by omega)]; rfl]
        rfl
      refine z_iload_n d_m_listWanted_44 45 rfl rfl rfl ?_
      refine z_bipush (v := nI 32) d_m_listWanted_45 47 rfl rfl ?_
      refine z_iload_n d_m_listWanted_47 48 rfl rfl rfl ?_
      first | refine z_imulN d_m_listWanted_48 49 rfl ?_ | refine z_imul d_m_listWanted_48 49 rfl ?_
      refine z_aload_n d_m_listWanted_49 50 rfl rfl rfl ?_
      refine zm_getA 3 d_m_listWanted_50 53 rfl f_m_20 rfl ?_
      refine z_iload_n d_m_listWanted_53 54 rfl rfl rfl ?_
      refine zm_iald d_m_listWanted_54 55 rfl (by decide) rfl (by simp only [zln]; omega) ?_
      rw [hRx.2.1]
      first | refine z_iaddN d_m_listWanted_55 56 rfl ?_ | refine z_iadd d_m_listWanted_55 56 rfl ?_
      refine z_icmp_geN (tgt := 176) d_m_listWanted_56 59 rfl rfl (by omega) (by omega) (fun h56 => ?_) (fun h56 => ?_)
      · omega
      · generalize As.getD j [] = bs at h3 hsl hmem htk
        refine z_aload_n d_m_listWanted_59 60 rfl rfl rfl ?_
        refine z_iload_n d_m_listWanted_60 61 rfl rfl rfl ?_
        refine zm_cV (fun v a f' => v = .int (nI (sortM bs)) ∧ x = a ∧ f' 9 = f 9) d_m_listWanted_61 64 rfl mv_m_sort kl_m_101 (by decide) (fun Q' h => c_m_sort _ hsl (by omega) (fun f h1 => h _ _ _ ⟨rfl, rfl, h1⟩)) rfl rfl (Nat.le_of_ble_eq_true rfl) ?_; rintro _ _ f1 ⟨rfl, rfl, i1⟩
        have hL1 : listP x f1 L := ⟨i1.trans hL.1, hL.2⟩
        obtain ⟨hr1, hln, hl⟩ := hsl
        refine z_ist3 d_m_listWanted_64 65 rfl rfl ?_
        refine z_iconst (v := nI 0) d_m_listWanted_65 66 rfl rfl ?_
        refine z_ist4 d_m_listWanted_66 68 rfl rfl ?_
        -- the lines
        have next : ∀ (x2 : Nat → Nat → Int32) (f2 : Nat → Int32) (L2 : List Nat) (k : Nat) (z : Option Value), k8 va x2 → (∀ y, y ∈ L2 ↔ (y ∈ T ∨ ∃ a, a ∈ As.take (j + 1) ∧ y ∈ needA a) ∧ lk As (nI y) = none) → listP x2 f2 L2 → Z l D M_m_listWanted 0 0 Q (zmod D o hp x2 f2) 0 0 170 [some (.ref o), some (.int (nI r)), some (.int (nI (32 * r + j))), some (.int (nI (sortM bs))), some (.int (nI k)), z] [] := by
          intro x2 f2 L2 k z a1 a2 a3
          first | refine z_incN2 d_m_listWanted_170 173 rfl rfl ?_ | refine z_inc2 d_m_listWanted_170 173 rfl rfl rfl ?_
          refine z_goto (tgt := 44) d_m_listWanted_173 rfl ?_
          exact ih (j + 1) x2 f2 L2 _ _ _ (by omega) a1 a2 a3 (fun v hv => by cases hv; rfl) (fun v hv => by cases hv; rfl)
        by_cases hk13 : sortM bs = 1 ∨ sortM bs = 3
        · have hneed : needA bs = (lns bs).flatMap needC := by simp [needA, hk13]
          have lines : ∀ (g k : Nat) (x2 : Nat → Nat → Int32) (f2 : Nat → Int32) (L2 P : List Nat) (z : Option Value), bs.length ≤ k + g → k ≤ bs.length → k8 va x2 → needA bs = P ++ (lnsF bs g k).flatMap needC → (∀ y, y ∈ L2 ↔ ((y ∈ T ∨ ∃ a, a ∈ As.take j ∧ y ∈ needA a) ∨ y ∈ P) ∧ lk As (nI y) = none) → listP x2 f2 L2 → Z l D M_m_listWanted 0 0 Q (zmod D o hp x2 f2) 0 0 68 [some (.ref o), some (.int (nI r)), some (.int (nI (32 * r + j))), some (.int (nI (sortM bs))), some (.int (nI k)), z] [] := by
            intro g
            induction g with
            | zero =>
              intro k x2 f2 L2 P z hg hk hx2 hP hm2 hL2
              have fin : Z l D M_m_listWanted 0 0 Q (zmod D o hp x2 f2) 0 0 170 [some (.ref o), some (.int (nI r)), some (.int (nI (32 * r + j))), some (.int (nI (sortM bs))), some (.int (nI k)), z] [] := by
                rw [lnsF_end (by omega), List.flatMap_nil, List.append_nil] at hP
                refine next x2 f2 L2 k z hx2 (fun y => ?_) hL2
                rw [hm2 y, htk, ← hP]
                constructor
                · rintro ⟨(h | ⟨a, h1, h2⟩) | h, h9⟩
                  · exact ⟨Or.inl h, h9⟩
                  · exact ⟨Or.inr ⟨a, List.mem_append_left _ h1, h2⟩, h9⟩
                  · exact ⟨Or.inr ⟨bs, List.mem_append_right _ (List.mem_singleton.mpr rfl), h⟩, h9⟩
                · rintro ⟨h | ⟨a, h1, h2⟩, h9⟩
                  · exact ⟨Or.inl (Or.inl h), h9⟩
                  · rcases List.mem_append.mp h1 with h1 | h1
                    · exact ⟨Or.inl (Or.inr ⟨a, h1, h2⟩), h9⟩
                    · rw [List.mem_singleton.mp h1] at h2
                      exact ⟨Or.inr h2, h9⟩
              have hln2 : x2 1 (32 * r + j) = nI bs.length := by rw [hx2 1 (by decide), ← hx 1 (by decide)]; exact hln
              have g78 : Z l D M_m_listWanted 0 0 Q (zmod D o hp x2 f2) 0 0 78 [some (.ref o), some (.int (nI r)), some (.int (nI (32 * r + j))), some (.int (nI (sortM bs))), some (.int (nI k)), z] [] := by
                refine z_iload d_m_listWanted_78 80 rfl rfl ?_
                refine z_aload_n d_m_listWanted_80 81 rfl rfl rfl ?_
                refine zm_getA 1 d_m_listWanted_81 84 rfl f_m_13 rfl ?_
                refine z_iload_n d_m_listWanted_84 85 rfl rfl rfl ?_
                refine zm_iald d_m_listWanted_85 86 rfl (by decide) rfl (by simp only [zln]; omega) ?_
                rw [hln2]
                refine z_icmp_geN (tgt := 170) d_m_listWanted_86 89 rfl rfl (by omega) (by omega) (fun h86 => ?_) (fun h86 => ?_)
                · exact fin
                · omega
              refine z_iload_n d_m_listWanted_68 69 rfl rfl rfl ?_
              refine z_iconst (v := nI 1) d_m_listWanted_69 70 rfl rfl ?_
              refine z_icmp_eqN (tgt := 78) d_m_listWanted_70 73 rfl rfl (by omega) (by omega) (fun h70 => ?_) (fun h70 => ?_)
              · exact g78
              · refine z_iload_n d_m_listWanted_73 74 rfl rfl rfl ?_
                refine z_iconst (v := nI 3) d_m_listWanted_74 75 rfl rfl ?_
                refine z_icmp_neN (tgt := 170) d_m_listWanted_75 78 rfl rfl (by omega) (by omega) (fun h75 => ?_) (fun h75 => ?_)
                · omega
                · exact g78
            | succ g ihg =>
              intro k x2 f2 L2 P z hg hk hx2 hP hm2 hL2
              have hR2 := hx2.rep hR
              have hsl2 : slotP x2 (32 * r + j) bs := by
                refine k8.slot (va := x) (fun q hq => ?_) ⟨hr1, hln, hl⟩
                rw [hx2 q hq, hx q hq]
              have fin0 : (lnsF bs (g + 1) k).flatMap needC = [] → ∀ (f3 : Nat → Int32) (k' : Nat) (z' : Option Value), f3 9 = f2 9 → Z l D M_m_listWanted 0 0 Q (zmod D o hp x2 f3) 0 0 170 [some (.ref o), some (.int (nI r)), some (.int (nI (32 * r + j))), some (.int (nI (sortM bs))), some (.int (nI k')), z'] [] := by
                intro he f3 k' z' hf3
                rw [he, List.append_nil] at hP
                refine next x2 f3 L2 k' z' hx2 (fun y => ?_) ⟨hf3.trans hL2.1, hL2.2⟩
                rw [hm2 y, htk, ← hP]
                constructor
                · rintro ⟨(h | ⟨a, h1, h2⟩) | h, h9⟩
                  · exact ⟨Or.inl h, h9⟩
                  · exact ⟨Or.inr ⟨a, List.mem_append_left _ h1, h2⟩, h9⟩
                  · exact ⟨Or.inr ⟨bs, List.mem_append_right _ (List.mem_singleton.mpr rfl), h⟩, h9⟩
                · rintro ⟨h | ⟨a, h1, h2⟩, h9⟩
                  · exact ⟨Or.inl (Or.inl h), h9⟩
                  · rcases List.mem_append.mp h1 with h1 | h1
                    · exact ⟨Or.inl (Or.inr ⟨a, h1, h2⟩), h9⟩
                    · rw [List.mem_singleton.mp h1] at h2
                      exact ⟨Or.inr h2, h9⟩
              have g78 : Z l D M_m_listWanted 0 0 Q (zmod D o hp x2 f2) 0 0 78 [some (.ref o), some (.int (nI r)), some (.int (nI (32 * r + j))), some (.int (nI (sortM bs))), some (.int (nI k)), z] [] := by
                refine z_iload d_m_listWanted_78 80 rfl rfl ?_
                refine z_aload_n d_m_listWanted_80 81 rfl rfl rfl ?_
                refine zm_getA 1 d_m_listWanted_81 84 rfl f_m_13 rfl ?_
                refine z_iload_n d_m_listWanted_84 85 rfl rfl rfl ?_
                refine zm_iald d_m_listWanted_85 86 rfl (by decide) rfl (by simp only [zln]; omega) ?_
                rw [hsl2.2.1]
                refine z_icmp_geN (tgt := 170) d_m_listWanted_86 89 rfl rfl (by omega) (by omega) (fun h86 => ?_) (fun h86 => ?_)
                · exact fin0 (by rw [lnsF_end (by omega)]; rfl) f2 k z rfl
                · refine z_aload_n d_m_listWanted_89 90 rfl rfl rfl ?_
                  refine z_iload_n d_m_listWanted_90 91 rfl rfl rfl ?_
                  refine z_iload d_m_listWanted_91 93 rfl rfl ?_
                  refine zm_cV (fun v a f' => v = .int (zb (rdl bs k).isSome) ∧ x2 = a ∧ f' 9 = f2 9 ∧ rdP (rdl bs k) f') d_m_listWanted_93 96 rfl mv_m_readLine kl_m_90 (by decide) (fun Q' h => c_m_readLine _ k hsl2.1 hsl2.2.1 hk (by omega) hl (fun f h1 h2 => h _ _ _ ⟨rfl, rfl, h1, h2⟩)) rfl rfl (Nat.le_of_ble_eq_true rfl) ?_; rintro _ _ f3 ⟨rfl, rfl, i3, i4⟩
                  refine z_if_eqB (tgt := 170) d_m_listWanted_96 99 rfl rfl (fun h96 => ?_) (fun h96 => ?_)
                  · exact fin0 (by rw [lnsF_none (by simpa using h96)]; rfl) f3 k z i3
                  · obtain ⟨⟨e, cd⟩, hrd⟩ := Option.isSome_iff_exists.mp h96
                    obtain ⟨e1, e2, e3⟩ := rdl_some hk hrd
                    rw [lnsF_some (by omega) hrd, List.flatMap_cons, ← List.append_assoc] at hP
                    rw [hrd] at i4
                    have hL3 : listP x2 f3 L2 := ⟨i3.trans hL2.1, hL2.2⟩
                    have g10 : f3 10 = nI e := by cases cd with
                      | none => exact i4.1
                      | some c => exact i4.1
                    refine z_aload_n d_m_listWanted_99 100 rfl rfl rfl ?_
                    refine zm_getF 10 d_m_listWanted_100 103 rfl f_m_51 rfl ?_; try simp only [pk_us, pk_un, ne_eq, Nat.reduceEqDiff, not_false_eq_true]
                    rw [g10]
                    refine z_ist4 d_m_listWanted_103 105 rfl rfl ?_
                    refine z_aload_n d_m_listWanted_105 106 rfl rfl rfl ?_
                    refine zm_getF 11 d_m_listWanted_106 109 rfl f_m_47 rfl ?_; try simp only [pk_us, pk_un, ne_eq, Nat.reduceEqDiff, not_false_eq_true]
                    have skip : needC cd = [] → Z l D M_m_listWanted 0 0 Q (zmod D o hp x2 f3) 0 0 68 [some (.ref o), some (.int (nI r)), some (.int (nI (32 * r + j))), some (.int (nI (sortM bs))), some (.int (nI e)), z] [] := by
                      intro hn
                      rw [hn, List.append_nil] at hP
                      exact ihg e x2 f3 L2 P z (by omega) e2 hx2 hP hm2 hL3
                    cases cd with
                    | none =>
                      rw [i4.2]
                      refine z_bipush (v := nI 70) d_m_listWanted_109 111 rfl rfl ?_
                      refine z_icmp_eqN (tgt := 132) d_m_listWanted_111 114 rfl rfl (by omega) (by omega) (fun h111 => ?_) (fun h111 => ?_)
                      · omega
                      · refine z_aload_n d_m_listWanted_114 115 rfl rfl rfl ?_
                        refine zm_getF 11 d_m_listWanted_115 118 rfl f_m_47 rfl ?_; try simp only [pk_us, pk_un, ne_eq, Nat.reduceEqDiff, not_false_eq_true]
                        rw [i4.2]
                        refine z_bipush (v := nI 77) d_m_listWanted_118 120 rfl rfl ?_
                        refine z_icmp_eqN (tgt := 132) d_m_listWanted_120 123 rfl rfl (by omega) (by omega) (fun h120 => ?_) (fun h120 => ?_)
                        · omega
                        · refine z_aload_n d_m_listWanted_123 124 rfl rfl rfl ?_
                          refine zm_getF 11 d_m_listWanted_124 127 rfl f_m_47 rfl ?_; try simp only [pk_us, pk_un, ne_eq, Nat.reduceEqDiff, not_false_eq_true]
                          rw [i4.2]
                          refine z_bipush (v := nI 80) d_m_listWanted_127 129 rfl rfl ?_
                          refine z_icmp_neN (tgt := 68) d_m_listWanted_129 132 rfl rfl (by omega) (by omega) (fun h129 => ?_) (fun h129 => ?_)
                          · exact skip rfl
                          · omega
                    | some c =>
                      obtain ⟨-, i5, i6, i7, -⟩ := i4
                      obtain ⟨hc1, hcx, hcy, -, -, -, hcs, hcn⟩ := e3 c rfl
                      have hmP : ∀ y, y ∈ P → y ∈ needA bs := fun y hy => by rw [hP]; exact List.mem_append_left _ (List.mem_append_left _ hy)
                      have hmC : ∀ y, y ∈ needC (some c) → y ∈ needA bs := fun y hy => by rw [hP]; exact List.mem_append_left _ (List.mem_append_right _ hy)
                      have hb2 : ∀ (M : List Nat), SS M → (∀ y, y ∈ M → y ∈ L2 ∨ y ∈ needC (some c)) → M.length < 900 := by
                        intro M hM h
                        refine hlen M hM fun y hy => ?_
                        rcases h y hy with h | h
                        · rcases ((hm2 y).1 h).1 with (h | ⟨a, h1, h2⟩) | h
                          · exact Or.inl h
                          · exact Or.inr ⟨a, List.mem_of_mem_take h1, h2⟩
                          · exact Or.inr ⟨bs, hmem, hmP y h⟩
                        · exact Or.inr ⟨bs, hmem, hmC y h⟩
                      have g132 : (c.1 = 70 ∨ c.1 = 77 ∨ c.1 = 80) → Z l D M_m_listWanted 0 0 Q (zmod D o hp x2 f3) 0 0 132 [some (.ref o), some (.int (nI r)), some (.int (nI (32 * r + j))), some (.int (nI (sortM bs))), some (.int (nI e)), z] [] := by
                        intro hlet
                        have hnc : needC (some c) = c.2.2.2.1.toList ++ (if c.1 = 80 then c.2.2.2.2.1.toList else []) := by simp [needC, hlet]
                        have g149 : ∀ w : Option Nat, w = (if c.1 = 80 then c.2.2.2.2.1 else none) → Z l D M_m_listWanted 0 0 Q (zmod D o hp x2 f3) 0 0 149 [some (.ref o), some (.int (nI r)), some (.int (nI (32 * r + j))), some (.int (nI (sortM bs))), some (.int (nI e)), z] [.int (oI w)] := by
                          intro w hw
                          have hnc2 : needC (some c) = c.2.2.2.1.toList ++ w.toList := by rw [hnc, hw]; split <;> rfl
                          refine z_ist5 d_m_listWanted_149 151 rfl rfl ?_
                          refine z_aload_n d_m_listWanted_151 152 rfl rfl rfl ?_
                          refine z_iload_n d_m_listWanted_152 153 rfl rfl rfl ?_
                          refine z_aload_n d_m_listWanted_153 154 rfl rfl rfl ?_
                          refine zm_getF 14 d_m_listWanted_154 157 rfl f_m_58 rfl ?_; try simp only [pk_us, pk_un, ne_eq, Nat.reduceEqDiff, not_false_eq_true]
                          rw [i6]
                          refine zm_cVv (fun a f' => ∃ L', k8 x2 a ∧ (∀ q, q ≠ 9 → f' q = f3 q) ∧ (∀ y, y ∈ L' ↔ (c.2.2.2.1 = some y ∧ lk As (nI y) = none) ∨ y ∈ L2) ∧ listP a f' L') d_m_listWanted_157 160 rfl mv_m_lack kl_m_146 (by decide) (fun Q' h => c_m_lack r _ hr2 hR2 hcx hL3 (hb2 L2 hL3.2.2.1 (fun y hy => Or.inl hy)) (fun a f L' h1 h2 h3 h4 => h _ _ ⟨L', h1, h2, h3, h4⟩)) rfl rfl (Nat.le_of_ble_eq_true rfl) ?_; rintro x4 f4 ⟨L4, k1, k2, k3, k4⟩
                          refine z_aload_n d_m_listWanted_160 161 rfl rfl rfl ?_
                          refine z_iload_n d_m_listWanted_161 162 rfl rfl rfl ?_
                          refine z_iload d_m_listWanted_162 164 rfl rfl ?_
                          have hb4 : L4.length < 900 := hb2 L4 k4.2.2.1 (fun y hy => by
                            rcases (k3 y).1 hy with ⟨h, -⟩ | h
                            · exact Or.inr (by rw [hnc2, h]; simp)
                            · exact Or.inl h)
                          refine zm_cVv (fun a f' => ∃ L', k8 x4 a ∧ (∀ y, y ∈ L' ↔ (w = some y ∧ lk As (nI y) = none) ∨ y ∈ L4) ∧ listP a f' L') d_m_listWanted_164 167 rfl mv_m_lack kl_m_146 (by decide) (fun Q' h => c_m_lack r _ hr2 (k1.rep hR2) (fun v hv => by rw [hw] at hv; split at hv; (exact hcy v hv); (cases hv)) k4 hb4 (fun a f L' h1 h2 h3 h4 => h _ _ ⟨L', h1, h3, h4⟩)) rfl rfl (Nat.le_of_ble_eq_true rfl) ?_; rintro x5 f5 ⟨L5, m1, m3, m4⟩
                          refine z_goto (tgt := 68) d_m_listWanted_167 rfl ?_
                          refine ihg e x5 f5 L5 (P ++ needC (some c)) _ (by omega) e2 ((hx2.trans k1).trans m1) hP (fun y => ?_) m4
                          rw [m3 y, k3 y, hm2 y, hnc2, List.mem_append, List.mem_append, Option.mem_toList, Option.mem_toList]
                          constructor
                          · rintro (⟨h, h9⟩ | ⟨h, h9⟩ | ⟨h, h9⟩)
                            · exact ⟨Or.inr (Or.inr (Or.inr h)), h9⟩
                            · exact ⟨Or.inr (Or.inr (Or.inl h)), h9⟩
                            · rcases h with h | h
                              · exact ⟨Or.inl h, h9⟩
                              · exact ⟨Or.inr (Or.inl h), h9⟩
                          · rintro ⟨h | h | h | h, h9⟩
                            · exact Or.inr (Or.inr ⟨Or.inl h, h9⟩)
                            · exact Or.inr (Or.inr ⟨Or.inr h, h9⟩)
                            · exact Or.inr (Or.inl ⟨h, h9⟩)
                            · exact Or.inl ⟨h, h9⟩
                        refine z_aload_n d_m_listWanted_132 133 rfl rfl rfl ?_
                        refine zm_getF 11 d_m_listWanted_133 136 rfl f_m_47 rfl ?_; try simp only [pk_us, pk_un, ne_eq, Nat.reduceEqDiff, not_false_eq_true]
                        rw [i5]
                        refine z_bipush (v := nI 80) d_m_listWanted_136 138 rfl rfl ?_
                        refine z_icmp_neN (tgt := 148) d_m_listWanted_138 141 rfl rfl (by omega) (by omega) (fun h138 => ?_) (fun h138 => ?_)
                        · refine z_iconst (v := oI none) d_m_listWanted_148 149 rfl (by decide) ?_
                          exact g149 none (by rw [if_neg h138])
                        · refine z_aload_n d_m_listWanted_141 142 rfl rfl rfl ?_
                          refine zm_getF 15 d_m_listWanted_142 145 rfl f_m_61 rfl ?_; try simp only [pk_us, pk_un, ne_eq, Nat.reduceEqDiff, not_false_eq_true]
                          rw [i7]
                          refine z_goto (tgt := 149) d_m_listWanted_145 rfl ?_
                          exact g149 _ (by rw [if_pos h138])
                      rw [i5]
                      refine z_bipush (v := nI 70) d_m_listWanted_109 111 rfl rfl ?_
                      refine z_icmp_eqN (tgt := 132) d_m_listWanted_111 114 rfl rfl (by omega) (by omega) (fun h111 => ?_) (fun h111 => ?_)
                      · exact g132 (Or.inl h111)
                      · refine z_aload_n d_m_listWanted_114 115 rfl rfl rfl ?_
                        refine zm_getF 11 d_m_listWanted_115 118 rfl f_m_47 rfl ?_; try simp only [pk_us, pk_un, ne_eq, Nat.reduceEqDiff, not_false_eq_true]
                        rw [i5]
                        refine z_bipush (v := nI 77) d_m_listWanted_118 120 rfl rfl ?_
                        refine z_icmp_eqN (tgt := 132) d_m_listWanted_120 123 rfl rfl (by omega) (by omega) (fun h120 => ?_) (fun h120 => ?_)
                        · exact g132 (Or.inr (Or.inl h120))
                        · refine z_aload_n d_m_listWanted_123 124 rfl rfl rfl ?_
                          refine zm_getF 11 d_m_listWanted_124 127 rfl f_m_47 rfl ?_; try simp only [pk_us, pk_un, ne_eq, Nat.reduceEqDiff, not_false_eq_true]
                          rw [i5]
                          refine z_bipush (v := nI 80) d_m_listWanted_127 129 rfl rfl ?_
                          refine z_icmp_neN (tgt := 68) d_m_listWanted_129 132 rfl rfl (by omega) (by omega) (fun h129 => ?_) (fun h129 => ?_)
                          · exact skip (by simp [needC, h111, h120, h129])
                          · exact g132 (Or.inr (Or.inr h129))
              refine z_iload_n d_m_listWanted_68 69 rfl rfl rfl ?_
              refine z_iconst (v := nI 1) d_m_listWanted_69 70 rfl rfl ?_
              refine z_icmp_eqN (tgt := 78) d_m_listWanted_70 73 rfl rfl (by omega) (by omega) (fun h70 => ?_) (fun h70 => ?_)
              · exact g78
              · refine z_iload_n d_m_listWanted_73 74 rfl rfl rfl ?_
                refine z_iconst (v := nI 3) d_m_listWanted_74 75 rfl rfl ?_
                refine z_icmp_neN (tgt := 170) d_m_listWanted_75 78 rfl rfl (by omega) (by omega) (fun h75 => ?_) (fun h75 => ?_)
                · omega
                · exact g78
          exact lines bs.length 0 x f1 L [] z5 (by omega) (Nat.zero_le _) hx (by rw [hneed]; rfl) (fun y => by rw [hm y]; simp) hL1
        · have e0 : needA bs = [] := by simp [needA, hk13]
          refine z_iload_n d_m_listWanted_68 69 rfl rfl rfl ?_
          refine z_iconst (v := nI 1) d_m_listWanted_69 70 rfl rfl ?_
          refine z_icmp_eqN (tgt := 78) d_m_listWanted_70 73 rfl rfl (by omega) (by omega) (fun h70 => ?_) (fun h70 => ?_)
          · omega
          · refine z_iload_n d_m_listWanted_73 74 rfl rfl rfl ?_
            refine z_iconst (v := nI 3) d_m_listWanted_74 75 rfl rfl ?_
            refine z_icmp_neN (tgt := 170) d_m_listWanted_75 78 rfl rfl (by omega) (by omega) (fun h75 => ?_) (fun h75 => ?_)
            · refine next x f1 L 0 z5 hx (fun y => ?_) hL1
              rw [hm y, htk]
              constructor
              · rintro ⟨h | ⟨a, h1, h2⟩, h9⟩
                · exact ⟨Or.inl h, h9⟩
                · exact ⟨Or.inr ⟨a, List.mem_append_left _ h1, h2⟩, h9⟩
              · rintro ⟨h | ⟨a, h1, h2⟩, h9⟩
                · exact ⟨Or.inl h, h9⟩
                · rcases List.mem_append.mp h1 with h1 | h1
                  · exact ⟨Or.inr ⟨a, h1, h2⟩, h9⟩
                  · rw [List.mem_singleton.mp h1, e0] at h2
                    cases h2
            · omega
  refine z_aload_n d_m_listWanted_0 1 rfl rfl rfl ?_
  refine z_iconst (v := nI 0) d_m_listWanted_1 2 rfl rfl ?_
  refine zm_putF 9 d_m_listWanted_2 5 rfl (p_m_136 _) (by decide) (by decide) ?_
  refine z_iconst (v := nI 0) d_m_listWanted_5 6 rfl rfl ?_
  refine z_ist2 d_m_listWanted_6 7 rfl rfl ?_
  have loop1 : ∀ (c j : Nat) (x : Nat → Nat → Int32) (f : Nat → Int32) (L : List Nat), j + c = T.length → k8 va x → (∀ y, y ∈ L ↔ y ∈ T.take j ∧ lk As (nI y) = none) → listP x f L → Z l D M_m_listWanted 0 0 Q (zmod D o hp x f) 0 0 7 [some (.ref o), some (.int (nI r)), some (.int (nI j)), none, none, none] [] := by
    intro c
    induction c with
    | zero =>
      intro j x f L hj hx hm hL
      refine z_iload_n d_m_listWanted_7 8 rfl rfl rfl ?_
      refine z_aload_n d_m_listWanted_8 9 rfl rfl rfl ?_
      refine zm_getA 5 d_m_listWanted_9 12 rfl f_m_26 rfl ?_
      refine z_iload_n d_m_listWanted_12 13 rfl rfl rfl ?_
      refine zm_iald d_m_listWanted_13 14 rfl (by decide) rfl (by simp only [zln]; omega) ?_
      rw [show x 5 r = nI T.length by rw [hx 5 (by decide)]; exact t1]
      refine z_icmp_geN (tgt := 39) d_m_listWanted_14 17 rfl rfl (by omega) (by omega) (fun h14 => ?_) (fun h14 => ?_)
      · refine z_bipush (v := nI 32) d_m_listWanted_39 41 rfl rfl ?_
        refine z_iload_n d_m_listWanted_41 42 rfl rfl rfl ?_
        first | refine z_imulN d_m_listWanted_42 43 rfl ?_ | refine z_imul d_m_listWanted_42 43 rfl ?_
        refine z_ist2 d_m_listWanted_43 44 rfl rfl ?_
        rw [List.take_of_length_le (by omega)] at hm
        exact loop2 As.length 0 x f L none none none (by omega) hx (fun y => by rw [hm y]; simp) hL (fun v hv => by cases hv) (fun v hv => by cases hv)
      · omega
    | succ c ih =>
      intro j x f L hj hx hm hL
      obtain ⟨t4, t5⟩ := t3 j (by omega)
      have htk : T.take (j + 1) = T.take j ++ [T.getD j 0] := by
        rw [List.take_add_one, show T[j]? = some (T.getD j 0) by rw [List.getD_eq_getElem?_getD, List.getElem?_eq_getElem (by omega)]; rfl]
        rfl
      have hl : L.length < 900 := hlen L hL.2.2.1 (fun y hy => Or.inl (List.mem_of_mem_take ((hm y).1 hy).1))
      refine z_iload_n d_m_listWanted_7 8 rfl rfl rfl ?_
      refine z_aload_n d_m_listWanted_8 9 rfl rfl rfl ?_
      refine zm_getA 5 d_m_listWanted_9 12 rfl f_m_26 rfl ?_
      refine z_iload_n d_m_listWanted_12 13 rfl rfl rfl ?_
      refine zm_iald d_m_listWanted_13 14 rfl (by decide) rfl (by simp only [zln]; omega) ?_
      rw [show x 5 r = nI T.length by rw [hx 5 (by decide)]; exact t1]
      refine z_icmp_geN (tgt := 39) d_m_listWanted_14 17 rfl rfl (by omega) (by omega) (fun h14 => ?_) (fun h14 => ?_)
      · omega
      · refine z_aload_n d_m_listWanted_17 18 rfl rfl rfl ?_
        refine z_iload_n d_m_listWanted_18 19 rfl rfl rfl ?_
        refine z_aload_n d_m_listWanted_19 20 rfl rfl rfl ?_
        refine zm_getA 4 d_m_listWanted_20 23 rfl f_m_23 rfl ?_
        refine z_bipush (v := nI 32) d_m_listWanted_23 25 rfl rfl ?_
        refine z_iload_n d_m_listWanted_25 26 rfl rfl rfl ?_
        first | refine z_imulN d_m_listWanted_26 27 rfl ?_ | refine z_imul d_m_listWanted_26 27 rfl ?_
        refine z_iload_n d_m_listWanted_27 28 rfl rfl rfl ?_
        first | refine z_iaddN d_m_listWanted_28 29 rfl ?_ | refine z_iadd d_m_listWanted_28 29 rfl ?_
        refine zm_iald d_m_listWanted_29 30 rfl (by decide) rfl (by simp only [zln]; omega) ?_
        rw [show x 4 (32 * r + j) = oI (some (T.getD j 0)) by rw [hx 4 (by decide)]; exact t4]
        refine zm_cVv (fun a f' => ∃ L', k8 x a ∧ (∀ y, y ∈ L' ↔ (some (T.getD j 0) = some y ∧ lk As (nI y) = none) ∨ y ∈ L) ∧ listP a f' L') d_m_listWanted_30 33 rfl mv_m_lack kl_m_146 (by decide) (fun Q' h => c_m_lack r _ hr2 (hx.rep hR) (fun v hv => by cases hv; exact t5) hL hl (fun a f L' h1 h2 h3 h4 => h _ _ ⟨L', h1, h3, h4⟩)) rfl rfl (Nat.le_of_ble_eq_true rfl) ?_; rintro x2 f2 ⟨L2, m1, m3, m4⟩
        first | refine z_incN2 d_m_listWanted_33 36 rfl rfl ?_ | refine z_inc2 d_m_listWanted_33 36 rfl rfl rfl ?_
        refine z_goto (tgt := 7) d_m_listWanted_36 rfl ?_
        refine ih (j + 1) x2 f2 L2 (by omega) (hx.trans m1) (fun y => ?_) m4
        rw [m3 y, hm y, htk, List.mem_append, List.mem_singleton]
        constructor
        · rintro (⟨h, h9⟩ | ⟨h, h9⟩)
          · cases h; exact ⟨Or.inr rfl, h9⟩
          · exact ⟨Or.inl h, h9⟩
        · rintro ⟨h | h, h9⟩
          · exact Or.inr ⟨h, h9⟩
          · exact Or.inl ⟨by rw [h], h9⟩
  exact loop1 T.length 0 va _ [] (by omega) (fun _ _ => rfl) (fun y => by simp) ⟨by rw [pk_us]; rfl, by simp, List.Pairwise.nil, fun i hi => by simp at hi⟩
end M13
end
section
/-! The reference: rising lists as functions; clusters. Own work. -/
def insS (n : Nat) : List Nat → List Nat
  | [] => [n]
  | a :: t => if n < a then n :: a :: t else if n = a then a :: t else a :: insS n t
def srt (l : List Nat) : List Nat := l.foldr insS []
theorem insS_mem (n x : Nat) : ∀ l, x ∈ insS n l ↔ x = n ∨ x ∈ l := by
  intro l
  induction l with
  | nil => simp [insS]
  | cons a t ih =>
    simp only [insS]
    split
    · simp
    · split
      next h => subst h; simp
      next => simp only [List.mem_cons, ih]; constructor <;> (rintro (h | h | h) <;> simp [h])
theorem insS_SS (n : Nat) : ∀ l, SS l → SS (insS n l) := by
  intro l
  induction l with
  | nil => intro _; simp [insS, SS]
  | cons a t ih =>
    intro h
    have h1 := List.pairwise_cons.mp h
    simp only [insS]
    split
    next hlt =>
      refine List.pairwise_cons.mpr ⟨fun b hb => ?_, h⟩
      rcases List.mem_cons.mp hb with rfl | hb
      · exact hlt
      · exact Nat.lt_trans hlt (h1.1 b hb)
    next hlt =>
      split
      · exact h
      next hne =>
        refine List.pairwise_cons.mpr ⟨fun b hb => ?_, ih h1.2⟩
        rcases (insS_mem n b t).1 hb with rfl | hb
        · omega
        · exact h1.1 b hb
theorem srt_mem (x : Nat) : ∀ l, x ∈ srt l ↔ x ∈ l := by
  intro l
  induction l with
  | nil => simp [srt]
  | cons a t ih => rw [show srt (a :: t) = insS a (srt t) from rfl, insS_mem, ih, List.mem_cons]
theorem srt_SS : ∀ l, SS (srt l) := by
  intro l
  induction l with
  | nil => exact List.Pairwise.nil
  | cons a t ih => exact insS_SS a _ ih
def looseL (As : List (List Nat)) : List Nat := srt ((As.map (dg 7)).filter fun x => !clu As (nI x))
def wantL (As : List (List Nat)) (T : List Nat) : List Nat := srt ((T ++ As.flatMap needA).filter fun x => (lk As (nI x)).isNone)
theorem looseL_mem {As : List (List Nat)} {x : Nat} : x ∈ looseL As ↔ ∃ a, a ∈ As ∧ dg 7 a = x ∧ clu As (nI x) = false := by
  rw [looseL, srt_mem, List.mem_filter, List.mem_map]
  constructor
  · rintro ⟨⟨a, h1, h2⟩, h3⟩
    exact ⟨a, h1, h2, by simpa using h3⟩
  · rintro ⟨a, h1, h2, h3⟩
    exact ⟨⟨a, h1, h2⟩, by simpa using h3⟩
theorem wantL_mem {As : List (List Nat)} {T : List Nat} {x : Nat} : x ∈ wantL As T ↔ (x ∈ T ∨ ∃ a, a ∈ As ∧ x ∈ needA a) ∧ lk As (nI x) = none := by
  rw [wantL, srt_mem, List.mem_filter, List.mem_append, List.mem_flatMap]
  simp
/-- a text is taken, if it isn't held and there is room -/
def addA (As : List (List Nat)) (bs : List Nat) : List (List Nat) := if lk As (nI (dg 7 bs)) = none ∧ As.length < 32 then As ++ [bs] else As
def bodyT (L : List Nat) : List Nat := L.flatMap fun n => [77, 32] ++ nmB n ++ [10]
def clT (L : List Nat) : List Nat := bodyT (L.take 20) ++ ([90, 32] ++ nmB (dg 7 (bodyT (L.take 20))) ++ [10])
def mkCl (As : List (List Nat)) : List (List Nat) := if (looseL As).length ≤ 5 then As else addA As (clT (looseL As))
def askP (va : Nat → Nat → Int32) (r : Nat) (K : List Nat) : Prop := va 7 r = nI K.length ∧ K.length < 900 ∧ ∀ i, i < K.length → va 6 (900 * r + i) = nI (K.getD i 0) ∧ K.getD i 0 < 16777216
/-- the reference's state: what is held, told, asked for; the draft -/
def mSt (As : Nat → List (List Nat)) (T K : Nat → List Nat) (dr : List Nat) (va : Nat → Nat → Int32) : Prop := (∀ q, q < 2 → repP va q (As q)) ∧ (∀ q, q < 2 → toldP va q (T q)) ∧ (∀ q, q < 2 → askP va q (K q)) ∧ slotP va 64 dr
theorem mSt.k8 {As : Nat → List (List Nat)} {T K : Nat → List Nat} {dr : List Nat} {va va' : Nat → Nat → Int32} (h : mSt As T K dr va) (hk : k8 va va') : mSt As T K dr va' :=
  ⟨fun q hq => hk.rep (h.1 q hq), fun q hq => hk.told (h.2.1 q hq), fun q hq => by unfold askP; rw [hk 6 (by decide), hk 7 (by decide)]; exact h.2.2.1 q hq, hk.slot h.2.2.2⟩
theorem mSt.sk65 {As : Nat → List (List Nat)} {T K : Nat → List Nat} {dr : List Nat} {va va' : Nat → Nat → Int32} (h : mSt As T K dr va) (hk : sk 65 va va') : mSt As T K dr va' :=
  ⟨fun q hq => hk.rep (by decide) hq (h.1 q hq), fun q hq => by unfold toldP; rw [hk.1 4 (by decide), hk.1 5 (by decide)]; exact h.2.1 q hq, fun q hq => by unfold askP; rw [hk.1 6 (by decide), hk.1 7 (by decide)]; exact h.2.2.1 q hq, hk.slot (by decide) h.2.2.2⟩
theorem mSt.sk64 {As : Nat → List (List Nat)} {T K : Nat → List Nat} {dr dr' : List Nat} {va va' : Nat → Nat → Int32} (h : mSt As T K dr va) (hk : sk 64 va va') (hd : slotP va' 64 dr') : mSt As T K dr' va' :=
  ⟨fun q hq => hk.rep (by decide) hq (h.1 q hq), fun q hq => by unfold toldP; rw [hk.1 4 (by decide), hk.1 5 (by decide)]; exact h.2.1 q hq, fun q hq => by unfold askP; rw [hk.1 6 (by decide), hk.1 7 (by decide)]; exact h.2.2.1 q hq, hd⟩
def upF {α : Type} (f : Nat → α) (k : Nat) (v : α) : Nat → α := fun j => if j = k then v else f j
theorem mSt.hold {As : Nat → List (List Nat)} {T K : Nat → List Nat} {dr : List Nat} {va va' : Nat → Nat → Int32} {r : Nat} {B : List (List Nat)} (h : mSt As T K dr va) (hr : r < 2) (hl : (As r).length < 32) (hk : hdR r (As r).length va va') (hB : repP va' r B) : mSt (upF As r B) T K dr va' :=
  ⟨fun q hq => by
    unfold upF
    by_cases e : q = r
    · rw [if_pos e, e]; exact hB
    · rw [if_neg e]; exact hk.rep hl e (h.1 q hq),
   fun q hq => by unfold toldP; rw [hk.1 4 (by decide), hk.1 5 (by decide)]; exact h.2.1 q hq, fun q hq => by unfold askP; rw [hk.1 6 (by decide), hk.1 7 (by decide)]; exact h.2.2.1 q hq, hk.slot (by omega) h.2.2.2⟩
theorem upF_same {α : Type} (f : Nat → α) (k : Nat) : upF f k (f k) = f := by
  funext j
  unfold upF
  split
  next h => rw [h]
  next => rfl
section M14
variable {l : Launch} {D : zD} {hp : zH} {o : Nat} {va : Nat → Nat → Int32} {vf : Nat → Int32} {Q : Option Value → zH → Prop} {As : Nat → List (List Nat)} {T K : Nat → List Nat} {dr : List Nat}
/-- hold, in the state's words -/
theorem c_m_holdS (r s : Nat) {bs : List Nat} (hr2 : r < 2) (h : mSt As T K dr va) (hs : s < 66) (hne : (As r).length < 32 → s ≠ 32 * r + (As r).length) (hr : slotP va s bs)
    (hQ : ∀ va', (s ≠ 32 * r + (As r).length → slotP va' s bs) → (∀ q t, q < 2 → t < 32 → q ≠ r → True) → mSt (upF As r (addA (As r) bs)) T K dr va' → Q none (zmod D o hp va' vf)) :
    Runs l D M_m_hold [.ref o, .int (nI r), .int (nI s), .int (nI (dg 7 bs))] (zmod D o hp va vf) 0 0 Q := by
  obtain ⟨j1, j2⟩ := fnd_lk (nI (dg 7 bs)) (As r) (32 * r)
  refine c_m_hold r s hr2 (h.1 r hr2) hs hne hr (fun h0 => ?_) (fun h1 h2 va' h3 h4 => ?_)
  · refine hQ va (fun _ => hr) (fun _ _ _ _ _ => trivial) ?_
    have e : addA (As r) bs = As r := by
      unfold addA
      rw [if_neg]
      rintro ⟨q1, q2⟩
      rcases h0 with h0 | h0
      · cases hf : fnd (nI (dg 7 bs)) (As r) (32 * r) with
        | none => exact h0 hf
        | some v => obtain ⟨-, -, b3, -⟩ := j2 v hf; rw [b3] at q1; cases q1
      · omega
    rw [e, upF_same]
    exact h
  · refine hQ va' (fun q => h3.slot q hr) (fun _ _ _ _ _ => trivial) ?_
    have e : addA (As r) bs = As r ++ [bs] := by
      unfold addA
      rw [if_pos ⟨j1 h1, h2⟩]
    rw [e]
    exact h.hold hr2 h2 h3 h4
theorem bodyT_snoc (L : List Nat) (n : Nat) : bodyT (L ++ [n]) = bodyT L ++ ([77, 32] ++ nmB n ++ [10]) := by simp [bodyT]
theorem bodyT_len : ∀ L : List Nat, (bodyT L).length = 9 * L.length := by
  intro L
  induction L with
  | nil => rfl
  | cons a t ih =>
    rw [show bodyT (a :: t) = ([77, 32] ++ nmB a ++ [10]) ++ bodyT t from rfl, List.length_append, ih]
    simp [nmB]
    omega
theorem c_m_makeCluster (r : Nat) (hr2 : r < 2) (h : mSt As T K dr va)
    (hQ : ∀ va' f, mSt (upF As r (mkCl (As r))) T K dr va' → Q none (zmod D o hp va' f)) : Runs l D M_m_makeCluster [.ref o, .int (nI r)] (zmod D o hp va vf) 0 0 Q := by
  refine Runs.of rfl rfl (Nat.le_of_ble_eq_true rfl) ?_
  refine z_aload_n d_m_makeCluster_0 1 rfl rfl rfl ?_
  refine z_iload_n d_m_makeCluster_1 2 rfl rfl rfl ?_
  refine zm_cVv (fun a f' => k8 va a ∧ (looseL (As r)).length ≤ 32 ∧ listP a f' (looseL (As r))) d_m_makeCluster_2 5 rfl mv_m_listLoose kl_m_149 (by decide) (fun Q' hq => c_m_listLoose r hr2 (h.1 r hr2) (fun a f L h1 h2 h3 h4 => hq _ _ (by rw [show looseL (As r) = L from SS_ext (srt_SS _) h4.2.2.1 (fun x => by rw [looseL_mem, h2 x])]; exact ⟨h1, h3, h4⟩))) rfl rfl (Nat.le_of_ble_eq_true rfl) ?_; rintro x0 f0 ⟨i1, i2, i3⟩
  have h0 := h.k8 i1
  generalize hLe : looseL (As r) = L at i2 i3
  refine z_aload_n d_m_makeCluster_5 6 rfl rfl rfl ?_
  refine zm_getF 9 d_m_makeCluster_6 9 rfl f_m_136 rfl ?_; try simp only [pk_us, pk_un, ne_eq, Nat.reduceEqDiff, not_false_eq_true]
  rw [i3.1]
  refine z_iconst (v := nI 5) d_m_makeCluster_9 10 rfl rfl ?_
  refine z_icmp_gtN (tgt := 14) d_m_makeCluster_10 13 rfl rfl (by omega) (by omega) (fun h10 => ?_) (fun h10 => ?_)
  · have e : mkCl (As r) = addA (As r) (clT L) := by unfold mkCl; rw [hLe, if_neg (by omega)]
    refine z_aload_n d_m_makeCluster_14 15 rfl rfl rfl ?_
    refine zm_getA 1 d_m_makeCluster_15 18 rfl f_m_13 rfl ?_
    refine z_bipush (v := nI 65) d_m_makeCluster_18 20 rfl rfl ?_
    refine z_iconst (v := nI 0) d_m_makeCluster_20 21 rfl rfl ?_
    refine zm_iast d_m_makeCluster_21 22 rfl (by decide) rfl (by simp only [zln]; omega) ?_
    refine z_iconst (v := nI 0) d_m_makeCluster_22 23 rfl rfl ?_
    refine z_ist2 d_m_makeCluster_23 24 rfl rfl ?_
    have k_y0 : sk 65 x0 (va_up x0 1 (upd (x0 1) 65 (nI 0))) := ⟨fun j hj => by simp only [va_up]; rw [if_neg (by omega)], fun t ht => by show upd (x0 1) 65 _ t = _; exact pk_un ht, fun i _ => rfl⟩
    have s_y0 : slotP (va_up x0 1 (upd (x0 1) 65 (nI 0))) 65 [] := ⟨fun k hk => by simp at hk, by show upd (x0 1) 65 _ 65 = _; rw [pk_us]; rfl, by simp⟩
    have fin : ∀ (x : Nat → Nat → Int32) (k : Nat), sk 65 x0 x → slotP x 65 (bodyT (L.take 20)) → Z l D M_m_makeCluster 0 0 Q (zmod D o hp x f0) 0 0 80 [some (.ref o), some (.int (nI r)), some (.int (nI k)), none] [] := by
      intro x k k_x s_x
      have hbl := bodyT_len (L.take 20)
      have ht20 : (L.take 20).length ≤ 20 := by simp; omega
      have hd := dg7 (bodyT (L.take 20))
      refine z_aload_n d_m_makeCluster_80 81 rfl rfl rfl ?_
      refine z_bipush (v := nI 7) d_m_makeCluster_81 83 rfl rfl ?_
      refine z_bipush (v := nI 65) d_m_makeCluster_83 85 rfl rfl ?_
      refine z_aload_n d_m_makeCluster_85 86 rfl rfl rfl ?_
      refine zm_getA 1 d_m_makeCluster_86 89 rfl f_m_13 rfl ?_
      refine z_bipush (v := nI 65) d_m_makeCluster_89 91 rfl rfl ?_
      refine zm_iald d_m_makeCluster_91 92 rfl (by decide) rfl (by simp only [zln]; omega) ?_
      rw [s_x.2.1]
      refine zm_cV1 d_m_makeCluster_92 95 rfl mv_m_digest kl_m_94 (by decide) (fun Q' hq => c_m_digest 7 65 _ s_x.1 (Nat.le_refl _) (by decide) s_x.2.2 (by decide) hq) rfl rfl (Nat.le_of_ble_eq_true rfl) ?_
      rw [List.take_length]
      generalize hbe : bodyT (L.take 20) = B at *
      refine z_ist2 d_m_makeCluster_95 96 rfl rfl ?_
      refine z_aload_n d_m_makeCluster_96 97 rfl rfl rfl ?_
      refine z_bipush (v := nI 65) d_m_makeCluster_97 99 rfl rfl ?_
      refine z_bipush (v := nI 90) d_m_makeCluster_99 101 rfl rfl ?_
      refine zm_cVv (fun aa f => f0 = f ∧ sk 65 x aa ∧ slotP aa 65 (B ++ [90])) d_m_makeCluster_101 104 rfl mv_m_write kl_m_111 (by decide) (fun Q' h => c_m_write 65 (90) s_x (by decide) (by first | omega | (simp; omega)) (by omega) (fun aa h1 h2 => h _ _ ⟨rfl, h1, h2⟩)) rfl rfl (Nat.le_of_ble_eq_true rfl) ?_; rintro y1 _ ⟨rfl, k_y1, s_y1⟩
      refine z_aload_n d_m_makeCluster_104 105 rfl rfl rfl ?_
      refine z_bipush (v := nI 65) d_m_makeCluster_105 107 rfl rfl ?_
      refine z_bipush (v := nI 32) d_m_makeCluster_107 109 rfl rfl ?_
      refine zm_cVv (fun aa f => f0 = f ∧ sk 65 y1 aa ∧ slotP aa 65 (B ++ [90] ++ [32])) d_m_makeCluster_109 112 rfl mv_m_write kl_m_111 (by decide) (fun Q' h => c_m_write 65 (32) s_y1 (by decide) (by first | omega | (simp; omega)) (by omega) (fun aa h1 h2 => h _ _ ⟨rfl, h1, h2⟩)) rfl rfl (Nat.le_of_ble_eq_true rfl) ?_; rintro y2 _ ⟨rfl, k_y2, s_y2⟩
      refine z_aload_n d_m_makeCluster_112 113 rfl rfl rfl ?_
      refine z_bipush (v := nI 65) d_m_makeCluster_113 115 rfl rfl ?_
      refine z_iload_n d_m_makeCluster_115 116 rfl rfl rfl ?_
      refine zm_cVv (fun aa f => f0 = f ∧ sk 65 y2 aa ∧ slotP aa 65 (B ++ [90] ++ [32] ++ nmB (dg 7 B))) d_m_makeCluster_116 119 rfl mv_m_writeName kl_m_124 (by decide) (fun Q' h => c_m_writeName 65 (dg 7 B) s_y2 (by decide) (by first | omega | (simp; omega)) (by omega) (fun aa h1 h2 => h _ _ ⟨rfl, h1, h2⟩)) rfl rfl (Nat.le_of_ble_eq_true rfl) ?_; rintro y3 _ ⟨rfl, k_y3, s_y3⟩
      refine z_aload_n d_m_makeCluster_119 120 rfl rfl rfl ?_
      refine z_bipush (v := nI 65) d_m_makeCluster_120 122 rfl rfl ?_
      refine z_bipush (v := nI 10) d_m_makeCluster_122 124 rfl rfl ?_
      refine zm_cVv (fun aa f => f0 = f ∧ sk 65 y3 aa ∧ slotP aa 65 (B ++ [90] ++ [32] ++ nmB (dg 7 B) ++ [10])) d_m_makeCluster_124 127 rfl mv_m_write kl_m_111 (by decide) (fun Q' h => c_m_write 65 (10) s_y3 (by decide) (by simp [nmB]; omega) (by omega) (fun aa h1 h2 => h _ _ ⟨rfl, h1, h2⟩)) rfl rfl (Nat.le_of_ble_eq_true rfl) ?_; rintro y4 _ ⟨rfl, k_y4, s_y4⟩
      have hcl : clT L = B ++ [90] ++ [32] ++ nmB (dg 7 B) ++ [10] := by unfold clT; rw [hbe]; simp
      rw [← hcl] at s_y4
      refine z_aload_n d_m_makeCluster_127 128 rfl rfl rfl ?_
      refine z_bipush (v := nI 7) d_m_makeCluster_128 130 rfl rfl ?_
      refine z_bipush (v := nI 65) d_m_makeCluster_130 132 rfl rfl ?_
      refine z_aload_n d_m_makeCluster_132 133 rfl rfl rfl ?_
      refine zm_getA 1 d_m_makeCluster_133 136 rfl f_m_13 rfl ?_
      refine z_bipush (v := nI 65) d_m_makeCluster_136 138 rfl rfl ?_
      refine zm_iald d_m_makeCluster_138 139 rfl (by decide) rfl (by simp only [zln]; omega) ?_
      rw [s_y4.2.1]
      refine zm_cV1 d_m_makeCluster_139 142 rfl mv_m_digest kl_m_94 (by decide) (fun Q' hq => c_m_digest 7 65 _ s_y4.1 (Nat.le_refl _) (by decide) s_y4.2.2 (by decide) hq) rfl rfl (Nat.le_of_ble_eq_true rfl) ?_
      rw [List.take_length]
      refine z_ist3 d_m_makeCluster_142 143 rfl rfl ?_
      refine z_aload_n d_m_makeCluster_143 144 rfl rfl rfl ?_
      refine z_iload_n d_m_makeCluster_144 145 rfl rfl rfl ?_
      refine z_bipush (v := nI 65) d_m_makeCluster_145 147 rfl rfl ?_
      refine z_iload_n d_m_makeCluster_147 148 rfl rfl rfl ?_
      have hst := h0.sk65 ((((k_x.trans k_y1).trans k_y2).trans k_y3).trans k_y4)
      refine zm_cVv (fun a f' => mSt (upF As r (addA (As r) (clT L))) T K dr a) d_m_makeCluster_148 151 rfl mv_m_hold kl_m_132 (by decide) (fun Q' hq => c_m_holdS r 65 hr2 hst (by decide) (fun _ => by omega) s_y4 (fun a h1 h2 h3 => hq _ _ h3)) rfl rfl (Nat.le_of_ble_eq_true rfl) ?_; rintro z f9 hz
      exact z_vret d_m_makeCluster_151 rfl (Nat.le_refl 0) (Nat.le_refl 0) (hQ z f9 (by rw [e]; exact hz))
    have loop : ∀ (c k : Nat) (x : Nat → Nat → Int32), (L.take 20).length = k + c → sk 65 x0 x → slotP x 65 (bodyT ((L.take 20).take k)) → Z l D M_m_makeCluster 0 0 Q (zmod D o hp x f0) 0 0 24 [some (.ref o), some (.int (nI r)), some (.int (nI k)), none] [] := by
      intro c
      induction c with
      | zero =>
        intro k x hk k_x s_x
        have ht20 : (L.take 20).length = min 20 L.length := by simp
        rw [List.take_of_length_le (by omega)] at s_x
        refine z_iload_n d_m_makeCluster_24 25 rfl rfl rfl ?_
        refine z_aload_n d_m_makeCluster_25 26 rfl rfl rfl ?_
        refine zm_getF 9 d_m_makeCluster_26 29 rfl f_m_136 rfl ?_; try simp only [pk_us, pk_un, ne_eq, Nat.reduceEqDiff, not_false_eq_true]
        rw [i3.1]
        refine z_icmp_geN (tgt := 80) d_m_makeCluster_29 32 rfl rfl (by omega) (by omega) (fun h29 => ?_) (fun h29 => ?_)
        · exact fin x k k_x s_x
        · refine z_iload_n d_m_makeCluster_32 33 rfl rfl rfl ?_
          refine z_bipush (v := nI 20) d_m_makeCluster_33 35 rfl rfl ?_
          refine z_icmp_geN (tgt := 80) d_m_makeCluster_35 38 rfl rfl (by omega) (by omega) (fun h35 => ?_) (fun h35 => ?_)
          · exact fin x k k_x s_x
          · omega
      | succ c ih =>
        intro k x hk k_x s_x
        have ht20 : (L.take 20).length = min 20 L.length := by simp
        have hbl := bodyT_len ((L.take 20).take k)
        have htk : ((L.take 20).take k).length = k := by rw [List.length_take]; omega
        have hnm := i3.2.2.2 k (by omega)
        have hsn : (L.take 20).take (k + 1) = (L.take 20).take k ++ [L.getD k 0] := by
          rw [List.take_add_one, show (L.take 20)[k]? = some (L.getD k 0) by rw [List.getElem?_take, if_pos (by omega), List.getD_eq_getElem?_getD, List.getElem?_eq_getElem (by omega)]; rfl]
          rfl
        have hbs := bodyT_snoc ((L.take 20).take k) (L.getD k 0)
        rw [← hsn] at hbs
        generalize hbe : bodyT ((L.take 20).take k) = B at s_x hbl hbs
        refine z_iload_n d_m_makeCluster_24 25 rfl rfl rfl ?_
        refine z_aload_n d_m_makeCluster_25 26 rfl rfl rfl ?_
        refine zm_getF 9 d_m_makeCluster_26 29 rfl f_m_136 rfl ?_; try simp only [pk_us, pk_un, ne_eq, Nat.reduceEqDiff, not_false_eq_true]
        rw [i3.1]
        refine z_icmp_geN (tgt := 80) d_m_makeCluster_29 32 rfl rfl (by omega) (by omega) (fun h29 => ?_) (fun h29 => ?_)
        · omega
        · refine z_iload_n d_m_makeCluster_32 33 rfl rfl rfl ?_
          refine z_bipush (v := nI 20) d_m_makeCluster_33 35 rfl rfl ?_
          refine z_icmp_geN (tgt := 80) d_m_makeCluster_35 38 rfl rfl (by omega) (by omega) (fun h35 => ?_) (fun h35 => ?_)
          · omega
          · refine z_aload_n d_m_makeCluster_38 39 rfl rfl rfl ?_
            refine z_bipush (v := nI 65) d_m_makeCluster_39 41 rfl rfl ?_
            refine z_bipush (v := nI 77) d_m_makeCluster_41 43 rfl rfl ?_
            refine zm_cVv (fun aa f => f0 = f ∧ sk 65 x aa ∧ slotP aa 65 (B ++ [77])) d_m_makeCluster_43 46 rfl mv_m_write kl_m_111 (by decide) (fun Q' h => c_m_write 65 (77) s_x (by decide) (by first | omega | (simp; omega)) (by omega) (fun aa h1 h2 => h _ _ ⟨rfl, h1, h2⟩)) rfl rfl (Nat.le_of_ble_eq_true rfl) ?_; rintro y1 _ ⟨rfl, k_y1, s_y1⟩
            refine z_aload_n d_m_makeCluster_46 47 rfl rfl rfl ?_
            refine z_bipush (v := nI 65) d_m_makeCluster_47 49 rfl rfl ?_
            refine z_bipush (v := nI 32) d_m_makeCluster_49 51 rfl rfl ?_
            refine zm_cVv (fun aa f => f0 = f ∧ sk 65 y1 aa ∧ slotP aa 65 (B ++ [77] ++ [32])) d_m_makeCluster_51 54 rfl mv_m_write kl_m_111 (by decide) (fun Q' h => c_m_write 65 (32) s_y1 (by decide) (by first | omega | (simp; omega)) (by omega) (fun aa h1 h2 => h _ _ ⟨rfl, h1, h2⟩)) rfl rfl (Nat.le_of_ble_eq_true rfl) ?_; rintro y2 _ ⟨rfl, k_y2, s_y2⟩
            refine z_aload_n d_m_makeCluster_54 55 rfl rfl rfl ?_
            refine z_bipush (v := nI 65) d_m_makeCluster_55 57 rfl rfl ?_
            refine z_aload_n d_m_makeCluster_57 58 rfl rfl rfl ?_
            refine zm_getA 8 d_m_makeCluster_58 61 rfl f_m_35 rfl ?_
            refine z_iload_n d_m_makeCluster_61 62 rfl rfl rfl ?_
            refine zm_iald d_m_makeCluster_62 63 rfl (by decide) rfl (by simp only [zln]; omega) ?_
            rw [show y2 8 k = nI (L.getD k 0) by rw [((k_x.trans k_y1).trans k_y2).1 8 (by decide)]; exact hnm.1]
            have hnm2 := hnm.2
            generalize L.getD k 0 = nn at hnm2 hbs
            refine zm_cVv (fun aa f => f0 = f ∧ sk 65 y2 aa ∧ slotP aa 65 (B ++ [77] ++ [32] ++ nmB nn)) d_m_makeCluster_63 66 rfl mv_m_writeName kl_m_124 (by decide) (fun Q' h => c_m_writeName 65 nn s_y2 (by decide) (by first | omega | (simp; omega)) (by omega) (fun aa h1 h2 => h _ _ ⟨rfl, h1, h2⟩)) rfl rfl (Nat.le_of_ble_eq_true rfl) ?_; rintro y3 _ ⟨rfl, k_y3, s_y3⟩
            refine z_aload_n d_m_makeCluster_66 67 rfl rfl rfl ?_
            refine z_bipush (v := nI 65) d_m_makeCluster_67 69 rfl rfl ?_
            refine z_bipush (v := nI 10) d_m_makeCluster_69 71 rfl rfl ?_
            refine zm_cVv (fun aa f => f0 = f ∧ sk 65 y3 aa ∧ slotP aa 65 (B ++ [77] ++ [32] ++ nmB nn ++ [10])) d_m_makeCluster_71 74 rfl mv_m_write kl_m_111 (by decide) (fun Q' h => c_m_write 65 (10) s_y3 (by decide) (by simp [nmB]; omega) (by omega) (fun aa h1 h2 => h _ _ ⟨rfl, h1, h2⟩)) rfl rfl (Nat.le_of_ble_eq_true rfl) ?_; rintro y4 _ ⟨rfl, k_y4, s_y4⟩
            first | refine z_incN2 d_m_makeCluster_74 77 rfl rfl ?_ | refine z_inc2 d_m_makeCluster_74 77 rfl rfl rfl ?_
            refine z_goto (tgt := 24) d_m_makeCluster_77 rfl ?_
            exact ih (k + 1) y4 (by omega) ((((k_x.trans k_y1).trans k_y2).trans k_y3).trans k_y4) (by rw [hbs]; simpa using s_y4)
    exact loop (L.take 20).length 0 _ (by omega) k_y0 s_y0
  · have e : mkCl (As r) = As r := by unfold mkCl; rw [hLe, if_pos (by omega)]
    exact z_vret d_m_makeCluster_13 rfl (Nat.le_refl 0) (Nat.le_refl 0) (hQ x0 f0 (by rw [e, upF_same]; exact h0))
end M14
end
section
/-! The reference: messages and rounds. Own work. -/
def sendF (Ar : List (List Nat)) : List Nat → Nat × Nat × List (List Nat) → Nat × Nat × List (List Nat)
  | [], z => z
  | n :: t, z => match lk Ar (nI n) with
    | some b => if b.length ≤ z.1 then sendF Ar t (z.1 - b.length, z.2.1 + 1, addA z.2.2 b) else sendF Ar t z
    | none => sendF Ar t z
def tellF (At : List (List Nat)) : List Nat → List Nat → List Nat
  | [], T => T
  | n :: t, T => tellF At t (if lk At (nI n) ≠ none ∨ n ∈ T then T else T ++ [n])
/-- what was told is a name of the other repository's, once -/
def tOk (As : Nat → List (List Nat)) (T : Nat → List Nat) : Prop := ∀ q, q < 2 → (T q).Nodup ∧ ∀ x, x ∈ T q → ∃ a, a ∈ As (1 - q) ∧ dg 7 a = x
theorem nodup_len : ∀ {L U : List Nat}, L.Nodup → (∀ x, x ∈ L → x ∈ U) → L.length ≤ U.length := by
  intro L
  induction L with
  | nil => intro U _ _; simp
  | cons a t ih =>
    intro U hL h
    have h1 := List.nodup_cons.mp hL
    have ha := h a List.mem_cons_self
    have := ih (U := U.erase a) h1.2 (fun x hx => by
      have hne : x ≠ a := fun e => h1.1 (e ▸ hx)
      exact (List.mem_erase_of_ne hne).2 (h x (List.mem_cons_of_mem _ hx)))
    rw [List.length_erase_of_mem ha] at this
    have hpos : 0 < U.length := List.length_pos_of_mem ha
    simp
    omega
theorem drop_consN {L : List Nat} {j : Nat} (h : j < L.length) : L.drop j = L.getD j 0 :: L.drop (j + 1) := by
  rw [List.drop_eq_getElem_cons h, List.getD_eq_getElem?_getD, List.getElem?_eq_getElem h]
  rfl
theorem tellF_ok (At : List (List Nat)) : ∀ (L T : List Nat), T.Nodup → (tellF At L T).Nodup ∧ ∀ x, x ∈ tellF At L T → x ∈ T ∨ x ∈ L := by
  intro L
  induction L with
  | nil => intro T h; exact ⟨h, fun x hx => Or.inl hx⟩
  | cons n t ih =>
    intro T h
    rw [tellF]
    split
    · obtain ⟨h1, h2⟩ := ih T h
      exact ⟨h1, fun x hx => (h2 x hx).elim Or.inl (fun q => Or.inr (List.mem_cons_of_mem _ q))⟩
    next hc =>
      have hn : n ∉ T := fun q => hc (Or.inr q)
      obtain ⟨h1, h2⟩ := ih (T ++ [n]) (by
        rw [List.nodup_append]
        exact ⟨h, by simp, fun a ha b hb => by rw [List.mem_singleton.mp hb]; exact fun e => hn (e ▸ ha)⟩)
      refine ⟨h1, fun x hx => ?_⟩
      rcases h2 x hx with q | q
      · rcases List.mem_append.mp q with q | q
        · exact Or.inl q
        · rw [List.mem_singleton.mp q]; exact Or.inr List.mem_cons_self
      · exact Or.inr (List.mem_cons_of_mem _ q)
section M15
variable {l : Launch} {D : zD} {hp : zH} {o : Nat} {va : Nat → Nat → Int32} {vf : Nat → Int32} {Q : Option Value → zH → Prop} {As : Nat → List (List Nat)} {T K : Nat → List Nat} {dr : List Nat}
theorem c_m_message (r to b : Nat) (hr2 : r < 2) (hto : to = 1 - r) (hb : b ≤ 10000) (h : mSt As T K dr va) (hT : tOk As T)
    (hQ : ∀ va' f, mSt (upF As to (sendF (As r) (K to) (b, 0, As to)).2.2) (upF T to (tellF (sendF (As r) (K to) (b, 0, As to)).2.2 (looseL (As r)) (T to))) (upF K r (wantL (As r) (T r))) dr va' → Q (some (.int (nI (sendF (As r) (K to) (b, 0, As to)).2.1))) (zmod D o hp va' f)) :
    Runs l D M_m_message [.ref o, .int (nI r), .int (nI b)] (zmod D o hp va vf) 0 0 Q := by
  refine Runs.of rfl rfl (Nat.le_of_ble_eq_true rfl) ?_
  have hto2 : to < 2 := by omega
  have hne : to ≠ r := by omega
  refine z_iconst (v := nI 1) d_m_message_0 1 rfl rfl ?_
  refine z_iload_n d_m_message_1 2 rfl rfl rfl ?_
  refine z_isubN d_m_message_2 3 rfl (by omega) ?_
  rw [← hto]
  refine z_ist3 d_m_message_3 4 rfl rfl ?_
  refine z_iload_n d_m_message_4 5 rfl rfl rfl ?_
  refine z_ist4 d_m_message_5 7 rfl rfl ?_
  refine z_iconst (v := nI 0) d_m_message_7 8 rfl rfl ?_
  refine z_ist5 d_m_message_8 10 rfl rfl ?_
  refine z_iconst (v := nI 0) d_m_message_10 11 rfl rfl ?_
  refine z_ist6 d_m_message_11 13 rfl rfl ?_
  generalize hSe : sendF (As r) (K to) (b, 0, As to) = S at hQ
  -- the end: what is asked for
  have last : ∀ (c k : Nat) (x : Nat → Nat → Int32) (f : Nat → Int32) (L A : List Nat) (le : Nat) (z7 z8 : Option Value), listP x f L → L.length < 900 → k + c = L.length → x 7 r = nI L.length → (∀ i, i < k → x 6 (900 * r + i) = nI (L.getD i 0)) → (∀ y, (∀ j, j ≠ 6 → y j = x j) → (∀ i, (i < 900 * r ∨ 900 * r + L.length ≤ i) → y 6 i = x 6 i) → (∀ i, i < L.length → y 6 (900 * r + i) = nI (L.getD i 0)) → Q (some (.int (nI S.2.1))) (zmod D o hp y f)) → Z l D M_m_message 0 0 Q (zmod D o hp x f) 0 0 148 [some (.ref o), some (.int (nI r)), some (.int (nI b)), some (.int (nI to)), some (.int (nI le)), some (.int (nI S.2.1)), some (.int (nI k)), z7, z8] [] := by
    intro c
    induction c with
    | zero =>
      intro k x f L A le z7 z8 hL hl9 hk h7 h6 fin
      refine z_iload d_m_message_148 150 rfl rfl ?_
      refine z_aload_n d_m_message_150 151 rfl rfl rfl ?_
      refine zm_getF 9 d_m_message_151 154 rfl f_m_136 rfl ?_; try simp only [pk_us, pk_un, ne_eq, Nat.reduceEqDiff, not_false_eq_true]
      rw [hL.1]
      refine z_icmp_geN (tgt := 183) d_m_message_154 157 rfl rfl (by omega) (by omega) (fun h154 => ?_) (fun h154 => ?_)
      · refine z_iload d_m_message_183 185 rfl rfl ?_
        exact z_iret d_m_message_185 rfl (Nat.le_refl 0) (Nat.le_refl 0) (fin x (fun _ _ => rfl) (fun _ _ => rfl) (fun i hi => h6 i (by omega)))
      · omega
    | succ c ih =>
      intro k x f L A le z7 z8 hL hl9 hk h7 h6 fin
      refine z_iload d_m_message_148 150 rfl rfl ?_
      refine z_aload_n d_m_message_150 151 rfl rfl rfl ?_
      refine zm_getF 9 d_m_message_151 154 rfl f_m_136 rfl ?_; try simp only [pk_us, pk_un, ne_eq, Nat.reduceEqDiff, not_false_eq_true]
      rw [hL.1]
      refine z_icmp_geN (tgt := 183) d_m_message_154 157 rfl rfl (by omega) (by omega) (fun h154 => ?_) (fun h154 => ?_)
      · omega
      · refine z_aload_n d_m_message_157 158 rfl rfl rfl ?_
        refine zm_getA 6 d_m_message_158 161 rfl f_m_29 rfl ?_
        refine z_sipush (v := nI 900) d_m_message_161 164 rfl rfl ?_
        refine z_iload_n d_m_message_164 165 rfl rfl rfl ?_
        first | refine z_imulN d_m_message_165 166 rfl ?_ | refine z_imul d_m_message_165 166 rfl ?_
        refine z_iload d_m_message_166 168 rfl rfl ?_
        first | refine z_iaddN d_m_message_168 169 rfl ?_ | refine z_iadd d_m_message_168 169 rfl ?_
        refine z_aload_n d_m_message_169 170 rfl rfl rfl ?_
        refine zm_getA 8 d_m_message_170 173 rfl f_m_35 rfl ?_
        refine z_iload d_m_message_173 175 rfl rfl ?_
        refine zm_iald d_m_message_175 176 rfl (by decide) rfl (by simp only [zln]; omega) ?_
        rw [(hL.2.2.2 k (by omega)).1]
        refine zm_iast d_m_message_176 177 rfl (by decide) rfl (by simp only [zln]; omega) ?_
        first | refine z_incN6 d_m_message_177 180 rfl rfl ?_ | refine z_inc6 d_m_message_177 180 rfl rfl rfl ?_
        refine z_goto (tgt := 148) d_m_message_180 rfl ?_
        refine ih (k + 1) _ f L A le z7 z8 ⟨hL.1, hL.2.1, hL.2.2.1, fun i hi => hL.2.2.2 i hi⟩ hl9 (by omega) h7 (fun i hi => ?_) (fun y y1 y2 y3 => ?_)
        · show upd (x 6) (900 * r + k) _ (900 * r + i) = _
          by_cases e : i = k
          · rw [e, pk_us]
          · rw [pk_un (by omega)]
            exact h6 i (by omega)
        · refine fin y (fun j hj => ?_) (fun i hi => ?_) y3
          · rw [y1 j hj]
            simp only [va_up]
            rw [if_neg hj]
          · rw [y2 i hi]
            show upd (x 6) (900 * r + k) _ i = _
            exact pk_un (by omega)
  -- what is told
  have tells : ∀ (L : List Nat), (∀ y, y ∈ L → ∃ a, a ∈ As r ∧ dg 7 a = y) → ∀ (c k : Nat) (x : Nat → Nat → Int32) (f : Nat → Int32) (Tt : List Nat) (le : Nat) (z7 z8 : Option Value), listP x f L → L.length ≤ 32 → k + c = L.length → mSt (upF As to S.2.2) (upF T to Tt) K dr x → Tt.Nodup → (∀ y, y ∈ Tt → ∃ a, a ∈ As r ∧ dg 7 a = y) → tellF S.2.2 (looseL (As r)) (T to) = tellF S.2.2 (L.drop k) Tt → Z l D M_m_message 0 0 Q (zmod D o hp x f) 0 0 103 [some (.ref o), some (.int (nI r)), some (.int (nI b)), some (.int (nI to)), some (.int (nI le)), some (.int (nI S.2.1)), some (.int (nI k)), z7, z8] [] := by
    intro L hLm c
    induction c with
    | zero =>
      intro k x f Tt le z7 z8 hL hl hk hst hnd htm he
      rw [List.drop_eq_nil_of_le (by omega), tellF] at he
      rw [he] at hQ
      have hArr : upF As to S.2.2 r = As r := by simp [upF, Ne.symm hne]
      have hTrr : upF T to Tt r = T r := by simp [upF, Ne.symm hne]
      have hRr := hst.1 r hr2
      rw [hArr] at hRr
      have hTr := hst.2.1 r hr2
      rw [hTrr] at hTr
      refine z_iload d_m_message_103 105 rfl rfl ?_
      refine z_aload_n d_m_message_105 106 rfl rfl rfl ?_
      refine zm_getF 9 d_m_message_106 109 rfl f_m_136 rfl ?_; try simp only [pk_us, pk_un, ne_eq, Nat.reduceEqDiff, not_false_eq_true]
      rw [hL.1]
      refine z_icmp_geN (tgt := 130) d_m_message_109 112 rfl rfl (by omega) (by omega) (fun h109 => ?_) (fun h109 => ?_)
      · refine z_aload_n d_m_message_130 131 rfl rfl rfl ?_
        refine z_iload_n d_m_message_131 132 rfl rfl rfl ?_
        refine zm_cVv (fun a f' => k8 x a ∧ (wantL (As r) (T r)).length < 900 ∧ listP a f' (wantL (As r) (T r))) d_m_message_132 135 rfl mv_m_listWanted kl_m_155 (by decide) (fun Q' hq => c_m_listWanted r hr2 hRr hTr (fun a f L h1 h2 h3 h4 => hq _ _ (by rw [show wantL (As r) (T r) = L from SS_ext (srt_SS _) h4.2.2.1 (fun x => by rw [wantL_mem, h2 x])]; exact ⟨h1, h3, h4⟩))) rfl rfl (Nat.le_of_ble_eq_true rfl) ?_; rintro x2 f2 ⟨i1, i2, i3⟩
        have hst2 := hst.k8 i1
        generalize hWe : wantL (As r) (T r) = Wt at *
        refine z_aload_n d_m_message_135 136 rfl rfl rfl ?_
        refine zm_getA 7 d_m_message_136 139 rfl f_m_32 rfl ?_
        refine z_iload_n d_m_message_139 140 rfl rfl rfl ?_
        refine z_aload_n d_m_message_140 141 rfl rfl rfl ?_
        refine zm_getF 9 d_m_message_141 144 rfl f_m_136 rfl ?_; try simp only [pk_us, pk_un, ne_eq, Nat.reduceEqDiff, not_false_eq_true]
        rw [i3.1]
        refine zm_iast d_m_message_144 145 rfl (by decide) rfl (by simp only [zln]; omega) ?_
        refine z_iconst (v := nI 0) d_m_message_145 146 rfl rfl ?_
        refine z_ist6 d_m_message_146 148 rfl rfl ?_
        refine last Wt.length 0 _ f2 Wt [] le z7 z8 ⟨i3.1, i3.2.1, i3.2.2.1, fun i hi => i3.2.2.2 i hi⟩ i2 (by omega) (by show upd (x2 7) r _ r = _; rw [pk_us]) (fun i hi => by omega) (fun y y1 y2 y3 => ?_)
        refine hQ y f2 ⟨fun q hq => ?_, fun q hq => ?_, fun q hq => ?_, ?_⟩
        · have := hst2.1 q hq
          unfold repP slotP zrow at this ⊢
          rw [y1 0 (by decide), y1 1 (by decide), y1 2 (by decide), y1 3 (by decide)]
          exact this
        · have := hst2.2.1 q hq
          unfold toldP at this ⊢
          rw [y1 4 (by decide), y1 5 (by decide)]
          exact this
        · unfold upF
          by_cases e : q = r
          · rw [if_pos e, e]
            refine ⟨?_, i2, fun i hi => ⟨y3 i hi, (i3.2.2.2 i hi).2⟩⟩
            rw [y1 7 (by decide)]
            show upd (x2 7) r _ r = _
            rw [pk_us]
          · rw [if_neg e]
            obtain ⟨a1, a2, a3⟩ := hst2.2.2.1 q hq
            refine ⟨?_, a2, fun i hi => ⟨?_, (a3 i hi).2⟩⟩
            · rw [y1 7 (by decide)]
              show upd (x2 7) r _ q = _
              rw [pk_un e]
              exact a1
            · rw [y2 _ (by omega)]
              exact (a3 i hi).1
        · have := hst2.2.2.2
          unfold slotP zrow at this ⊢
          rw [y1 0 (by decide), y1 1 (by decide)]
          exact this
      · omega
    | succ c ih =>
      intro k x f Tt le z7 z8 hL hl hk hst hnd htm he
      have hnm := hL.2.2.2 k (by omega)
      have hmem : L.getD k 0 ∈ L := getD_mem (by omega)
      have hAt : upF As to S.2.2 to = S.2.2 := by simp [upF]
      have hTt : upF T to Tt to = Tt := by simp [upF]
      have hRt := hst.1 to hto2
      rw [hAt] at hRt
      have hTl := hst.2.1 to hto2
      rw [hTt] at hTl
      rw [drop_consN (by omega), tellF] at he
      refine z_iload d_m_message_103 105 rfl rfl ?_
      refine z_aload_n d_m_message_105 106 rfl rfl rfl ?_
      refine zm_getF 9 d_m_message_106 109 rfl f_m_136 rfl ?_; try simp only [pk_us, pk_un, ne_eq, Nat.reduceEqDiff, not_false_eq_true]
      rw [hL.1]
      refine z_icmp_geN (tgt := 130) d_m_message_109 112 rfl rfl (by omega) (by omega) (fun h109 => ?_) (fun h109 => ?_)
      · omega
      · refine z_aload_n d_m_message_112 113 rfl rfl rfl ?_
        refine z_iload_n d_m_message_113 114 rfl rfl rfl ?_
        refine z_aload_n d_m_message_114 115 rfl rfl rfl ?_
        refine zm_getA 8 d_m_message_115 118 rfl f_m_35 rfl ?_
        refine z_iload d_m_message_118 120 rfl rfl ?_
        refine zm_iald d_m_message_120 121 rfl (by decide) rfl (by simp only [zln]; omega) ?_
        rw [hnm.1]
        have hn2 := hnm.2
        have hNm := hLm _ hmem
        generalize L.getD k 0 = nn at hn2 hNm he
        have hroom : lk S.2.2 (nI nn) = none → nn ∉ Tt → Tt.length < 32 := by
          intro h1 h2
          have h32 := (h.1 r hr2).1
          have := nodup_len (L := Tt ++ [nn]) (U := (As r).map (dg 7)) (by rw [List.nodup_append]; exact ⟨hnd, by simp, fun a ha b hb => by rw [List.mem_singleton.mp hb]; exact fun e => h2 (e ▸ ha)⟩) (fun y hy => by
            rcases List.mem_append.mp hy with hy | hy
            · obtain ⟨a, q1, q2⟩ := htm y hy; exact List.mem_map.mpr ⟨a, q1, q2⟩
            · rw [List.mem_singleton.mp hy]; obtain ⟨a, q1, q2⟩ := hNm; exact List.mem_map.mpr ⟨a, q1, q2⟩)
          simp at this
          omega
        refine zm_cVv (fun a f' => f = f' ∧ (((lk S.2.2 (nI nn) ≠ none ∨ nn ∈ Tt) ∧ a = x) ∨ ((¬ (lk S.2.2 (nI nn) ≠ none ∨ nn ∈ Tt)) ∧ (∀ j, j ≠ 4 → j ≠ 5 → a j = x j) ∧ (∀ q, q ≠ to → a 5 q = x 5 q) ∧ (∀ i, i ≠ 32 * to + Tt.length → a 4 i = x 4 i) ∧ toldP a to (Tt ++ [nn])))) d_m_message_121 124 rfl mv_m_tell kl_m_152 (by decide) (fun Q' hq => c_m_tell to nn hto2 hn2 hRt hTl hroom (fun h0 => hq _ _ ⟨rfl, Or.inl ⟨h0, rfl⟩⟩) (fun h1 h2 a q1 q2 q3 q4 => hq _ _ ⟨rfl, Or.inr ⟨by rintro (q | q); (exact q h1); (exact h2 q), q1, q2, q3, q4⟩⟩)) rfl rfl (Nat.le_of_ble_eq_true rfl) ?_; rintro x3 _ ⟨rfl, hx3⟩
        rcases hx3 with ⟨hc, rfl⟩ | ⟨hc, q1, q2, q3, q4⟩
        · rw [if_pos hc] at he
          first | refine z_incN6 d_m_message_124 127 rfl rfl ?_ | refine z_inc6 d_m_message_124 127 rfl rfl rfl ?_
          refine z_goto (tgt := 103) d_m_message_127 rfl ?_
          exact ih (k + 1) _ f Tt le z7 z8 hL hl (by omega) hst hnd htm he
        · rw [if_neg hc] at he
          first | refine z_incN6 d_m_message_124 127 rfl rfl ?_ | refine z_inc6 d_m_message_124 127 rfl rfl rfl ?_
          refine z_goto (tgt := 103) d_m_message_127 rfl ?_
          refine ih (k + 1) x3 f (Tt ++ [nn]) le z7 z8 ⟨hL.1, hL.2.1, hL.2.2.1, fun i hi => by rw [q1 8 (by decide) (by decide)]; exact hL.2.2.2 i hi⟩ hl (by omega) ⟨fun q hq => ?_, fun q hq => ?_, fun q hq => ?_, ?_⟩ (by rw [List.nodup_append]; exact ⟨hnd, by simp, fun a ha b hb => by rw [List.mem_singleton.mp hb]; exact fun e => hc (Or.inr (e ▸ ha))⟩) (fun y hy => ?_) he
          · have := hst.1 q hq
            unfold repP slotP zrow at this ⊢
            rw [q1 0 (by decide) (by decide), q1 1 (by decide) (by decide), q1 2 (by decide) (by decide), q1 3 (by decide) (by decide)]
            exact this
          · unfold upF
            by_cases e : q = to
            · rw [if_pos e, e]
              exact q4
            · rw [if_neg e]
              have := hst.2.1 q hq
              unfold upF at this
              rw [if_neg e] at this
              obtain ⟨a1, a2, a3⟩ := this
              have htl := hTl.2.1
              have htl4 := q4.2.1
              simp at htl4
              exact ⟨by rw [q2 q e]; exact a1, a2, fun i hi => ⟨by rw [q3 _ (by omega)]; exact (a3 i hi).1, (a3 i hi).2⟩⟩
          · have := hst.2.2.1 q hq
            unfold askP at this ⊢
            rw [q1 6 (by decide) (by decide), q1 7 (by decide) (by decide)]
            exact this
          · have := hst.2.2.2
            unfold slotP zrow at this ⊢
            rw [q1 0 (by decide) (by decide), q1 1 (by decide) (by decide)]
            exact this
          · rcases List.mem_append.mp hy with hy | hy
            · exact htm y hy
            · rw [List.mem_singleton.mp hy]; exact hNm
  -- what is sent
  have sends : ∀ (c i : Nat) (x : Nat → Nat → Int32) (f : Nat → Int32) (le se : Nat) (At : List (List Nat)) (z7 z8 : Option Value), i + c = (K to).length → le ≤ 10000 → se ≤ i → mSt (upF As to At) T K dr x → S = sendF (As r) ((K to).drop i) (le, se, At) → (∀ v, z7 = some v → v.category = 1) → Z l D M_m_message 0 0 Q (zmod D o hp x f) 0 0 13 [some (.ref o), some (.int (nI r)), some (.int (nI b)), some (.int (nI to)), some (.int (nI le)), some (.int (nI se)), some (.int (nI i)), z7, z8] [] := by
    intro c
    induction c with
    | zero =>
      intro i x f le se At z7 z8 hi hle hse hst he hz
      rw [List.drop_eq_nil_of_le (by omega), sendF] at he
      have e1 : S.2.1 = se := by rw [he]
      have e2 : S.2.2 = At := by rw [he]
      have hA := hst.2.2.1 to hto2
      have hArr : upF As to At r = As r := by simp [upF, Ne.symm hne]
      have hRr := hst.1 r hr2
      rw [hArr] at hRr
      refine z_iload d_m_message_13 15 rfl rfl ?_
      refine z_aload_n d_m_message_15 16 rfl rfl rfl ?_
      refine zm_getA 7 d_m_message_16 19 rfl f_m_32 rfl ?_
      refine z_iload_n d_m_message_19 20 rfl rfl rfl ?_
      refine zm_iald d_m_message_20 21 rfl (by decide) rfl (by simp only [zln]; omega) ?_
      rw [hA.1]
      (have hA2 := hA.2.1); refine z_icmp_geN (tgt := 95) d_m_message_21 24 rfl rfl (by omega) (by omega) (fun h21 => ?_) (fun h21 => ?_)
      · refine z_aload_n d_m_message_95 96 rfl rfl rfl ?_
        refine z_iload_n d_m_message_96 97 rfl rfl rfl ?_
        refine zm_cVv (fun a f' => k8 x a ∧ (looseL (As r)).length ≤ 32 ∧ listP a f' (looseL (As r))) d_m_message_97 100 rfl mv_m_listLoose kl_m_149 (by decide) (fun Q' hq => c_m_listLoose r hr2 hRr (fun a f L h1 h2 h3 h4 => hq _ _ (by rw [show looseL (As r) = L from SS_ext (srt_SS _) h4.2.2.1 (fun x => by rw [looseL_mem, h2 x])]; exact ⟨h1, h3, h4⟩))) rfl rfl (Nat.le_of_ble_eq_true rfl) ?_; rintro x2 f2 ⟨i1, i2, i3⟩
        refine z_iconst (v := nI 0) d_m_message_100 101 rfl rfl ?_
        refine z_ist6 d_m_message_101 103 rfl rfl ?_
        rw [← e1]
        refine tells (looseL (As r)) (fun y hy => by obtain ⟨a, q1, q2, -⟩ := looseL_mem.1 hy; exact ⟨a, q1, q2⟩) (looseL (As r)).length 0 x2 f2 (T to) le z7 z8 i3 i2 (by omega) (by rw [e2, upF_same]; exact hst.k8 i1) (hT to hto2).1 (fun y hy => by obtain ⟨a, q1, q2⟩ := (hT to hto2).2 y hy; rw [show 1 - to = r by omega] at q1; exact ⟨a, q1, q2⟩) rfl
      · omega
    | succ c ih =>
      intro i x f le se At z7 z8 hi hle hse hst he hz
      have hA := hst.2.2.1 to hto2
      have hA2 := hA.2.1
      have hArr : upF As to At r = As r := by simp [upF, Ne.symm hne]
      have hAtt : upF As to At to = At := by simp [upF]
      have hRr := hst.1 r hr2
      rw [hArr] at hRr
      have h32 := hRr.1
      have hK := hA.2.2 i (by omega)
      rw [drop_consN (by omega), sendF] at he
      refine z_iload d_m_message_13 15 rfl rfl ?_
      refine z_aload_n d_m_message_15 16 rfl rfl rfl ?_
      refine zm_getA 7 d_m_message_16 19 rfl f_m_32 rfl ?_
      refine z_iload_n d_m_message_19 20 rfl rfl rfl ?_
      refine zm_iald d_m_message_20 21 rfl (by decide) rfl (by simp only [zln]; omega) ?_
      rw [hA.1]
      refine z_icmp_geN (tgt := 95) d_m_message_21 24 rfl rfl (by omega) (by omega) (fun h21 => ?_) (fun h21 => ?_)
      · omega
      · refine z_aload_n d_m_message_24 25 rfl rfl rfl ?_
        refine zm_getA 6 d_m_message_25 28 rfl f_m_29 rfl ?_
        refine z_sipush (v := nI 900) d_m_message_28 31 rfl rfl ?_
        refine z_iload_n d_m_message_31 32 rfl rfl rfl ?_
        first | refine z_imulN d_m_message_32 33 rfl ?_ | refine z_imul d_m_message_32 33 rfl ?_
        refine z_iload d_m_message_33 35 rfl rfl ?_
        first | refine z_iaddN d_m_message_35 36 rfl ?_ | refine z_iadd d_m_message_35 36 rfl ?_
        refine zm_iald d_m_message_36 37 rfl (by decide) rfl (by simp only [zln]; omega) ?_
        rw [hK.1]
        have hK2 := hK.2
        generalize (K to).getD i 0 = nn at hK2 he
        obtain ⟨j1, j2⟩ := fnd_lk (nI nn) (As r) (32 * r)
        refine z_ist7 d_m_message_37 39 rfl rfl ?_
        refine z_aload_n d_m_message_39 40 rfl rfl rfl ?_
        refine z_iload_n d_m_message_40 41 rfl rfl rfl ?_
        refine z_iload d_m_message_41 43 rfl rfl ?_
        refine zm_cV1 d_m_message_43 46 rfl mv_m_find kl_m_98 (by decide) (fun Q' hq => c_m_find r _ hr2 hRr hq) rfl rfl (Nat.le_of_ble_eq_true rfl) ?_
        refine z_ist8 d_m_message_46 48 rfl rfl ?_
        refine z_iload d_m_message_48 50 rfl rfl ?_
        refine z_if_ltO (tgt := 89) d_m_message_50 53 rfl rfl (fun v h => by obtain ⟨h1, h2, -⟩ := j2 v h; omega) (fun h50 => ?_) (fun w50 h50 => ?_)
        · rw [j1 h50] at he
          first | refine z_incN6 d_m_message_89 92 rfl rfl ?_ | refine z_inc6 d_m_message_89 92 rfl rfl rfl ?_
          refine z_goto (tgt := 13) d_m_message_92 rfl ?_
          exact ih (i + 1) x f le se At _ _ (by omega) hle (by omega) hst he (fun v hv => by cases hv; rfl)
        · obtain ⟨b1, b2, b3, b4⟩ := j2 _ h50
          rw [b3] at he
          rw [h50, show oI (some w50) = nI w50 from rfl]
          obtain ⟨hsl, -⟩ := hRr.2.2 (w50 - 32 * r) b2
          rw [show 32 * r + (w50 - 32 * r) = w50 by omega] at hsl
          generalize (As r).getD (w50 - 32 * r) [] = bs at hsl b4 he
          have hl := hsl.2.2
          refine z_aload_n d_m_message_53 54 rfl rfl rfl ?_
          refine zm_getA 1 d_m_message_54 57 rfl f_m_13 rfl ?_
          refine z_iload d_m_message_57 59 rfl rfl ?_
          refine zm_iald d_m_message_59 60 rfl (by decide) rfl (by simp only [zln]; omega) ?_
          rw [hsl.2.1]
          refine z_iload d_m_message_60 62 rfl rfl ?_
          refine z_icmp_gtN (tgt := 89) d_m_message_62 65 rfl rfl (by omega) (by omega) (fun h62 => ?_) (fun h62 => ?_)
          · have hn : ¬ bs.length ≤ (le, se, At).1 := by show ¬ bs.length ≤ le; omega
            simp only [if_neg hn] at he
            first | refine z_incN6 d_m_message_89 92 rfl rfl ?_ | refine z_inc6 d_m_message_89 92 rfl rfl rfl ?_
            refine z_goto (tgt := 13) d_m_message_92 rfl ?_
            exact ih (i + 1) x f le se At _ _ (by omega) hle (by omega) hst he (fun v hv => by cases hv; rfl)
          · have hn : bs.length ≤ (le, se, At).1 := h62
            simp only [if_pos hn] at he
            refine z_iload d_m_message_65 67 rfl rfl ?_
            refine z_aload_n d_m_message_67 68 rfl rfl rfl ?_
            refine zm_getA 1 d_m_message_68 71 rfl f_m_13 rfl ?_
            refine z_iload d_m_message_71 73 rfl rfl ?_
            refine zm_iald d_m_message_73 74 rfl (by decide) rfl (by simp only [zln]; omega) ?_
            rw [hsl.2.1]
            refine z_isubN d_m_message_74 75 rfl (by omega) ?_
            refine z_ist4 d_m_message_75 77 rfl rfl ?_
            first | refine z_incN5 d_m_message_77 80 rfl rfl ?_ | refine z_inc5 d_m_message_77 80 rfl rfl rfl ?_
            refine z_aload_n d_m_message_80 81 rfl rfl rfl ?_
            refine z_iload_n d_m_message_81 82 rfl rfl rfl ?_
            refine z_iload d_m_message_82 84 rfl rfl ?_
            refine z_iload d_m_message_84 86 rfl rfl ?_
            rw [← b4]
            refine zm_cVv (fun a f' => f = f' ∧ mSt (upF As to (addA At bs)) T K dr a) d_m_message_86 89 rfl mv_m_hold kl_m_132 (by decide) (fun Q' hq => c_m_holdS to w50 hto2 hst (by omega) (fun hlt => by rw [hAtt] at hlt ⊢; omega) hsl (fun a h1 h2 h3 => hq _ _ ⟨rfl, by rw [hAtt] at h3; rw [show upF (upF As to At) to (addA At bs) = upF As to (addA At bs) by funext q; unfold upF; split <;> rfl] at h3; exact h3⟩)) rfl rfl (Nat.le_of_ble_eq_true rfl) ?_; rintro x3 _ ⟨rfl, hx3⟩
            first | refine z_incN6 d_m_message_89 92 rfl rfl ?_ | refine z_inc6 d_m_message_89 92 rfl rfl rfl ?_
            refine z_goto (tgt := 13) d_m_message_92 rfl ?_
            exact ih (i + 1) x3 f _ _ _ _ _ (by omega) (by omega) (by omega) hx3 he (fun v hv => by cases hv; rfl)
  exact sends (K to).length 0 va vf b 0 (As to) none none (by omega) hb (Nat.le_refl 0) (by rw [upF_same]; exact h) (by rw [List.drop_zero]; exact hSe.symm) (fun v hv => by cases hv)
end M15
end
