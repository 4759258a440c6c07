/-- a private method of a class that the tables say can be made, by its rows of tables_1 -/
def lw_okq (q : MethodName × Nat) : Prop := (q.1.cls ≠ "java/lang/invoke/MethodHandle" ∧ q.1.cls ≠ "java/lang/invoke/VarHandle") ∧ Cond.instantiable q.1.cls q.2 ∈ tables_1 ∧ Cond.privateMethod q.1 ∈ tables_1 ∧ Cond.instanceMethod q.1 ∈ tables_1
theorem lw_p0 : lw_okq (⟨"ArtifactBags", "writeCard", "(III)V"⟩, 4) := ⟨⟨by decide +kernel, by decide +kernel⟩, List.mem_of_getElem? (i := 13) (by decide +kernel), List.mem_of_getElem? (i := 131) (by decide +kernel), List.mem_of_getElem? (i := 132) (by decide +kernel)⟩
theorem lw_p1 : lw_okq (⟨"ArtifactBags$Row", "addSpaceAndName", "(I)V"⟩, 2) := ⟨⟨by decide +kernel, by decide +kernel⟩, List.mem_of_getElem? (i := 82) (by decide +kernel), List.mem_of_getElem? (i := 147) (by decide +kernel), List.mem_of_getElem? (i := 148) (by decide +kernel)⟩
theorem lw_p2 : lw_okq (⟨"ArtifactBags", "bagOf", "(I)LArtifactBags$Bag;"⟩, 4) := ⟨⟨by decide +kernel, by decide +kernel⟩, List.mem_of_getElem? (i := 13) (by decide +kernel), List.mem_of_getElem? (i := 193) (by decide +kernel), List.mem_of_getElem? (i := 194) (by decide +kernel)⟩
theorem lw_p3 : lw_okq (⟨"ArtifactBags$Bag", "insert", "(LArtifactBags$Artifact;)V"⟩, 6) := ⟨⟨by decide +kernel, by decide +kernel⟩, List.mem_of_getElem? (i := 21) (by decide +kernel), List.mem_of_getElem? (i := 359) (by decide +kernel), List.mem_of_getElem? (i := 360) (by decide +kernel)⟩
theorem lw_p4 : lw_okq (⟨"ArtifactBags$NameSet", "placeOf", "(I)I"⟩, 2) := ⟨⟨by decide +kernel, by decide +kernel⟩, List.mem_of_getElem? (i := 44) (by decide +kernel), List.mem_of_getElem? (i := 367) (by decide +kernel), List.mem_of_getElem? (i := 368) (by decide +kernel)⟩
theorem lw_p5 : lw_okq (⟨"ArtifactBags$Bag", "noteNamesOf", "(LArtifactBags$Artifact;)V"⟩, 6) := ⟨⟨by decide +kernel, by decide +kernel⟩, List.mem_of_getElem? (i := 21) (by decide +kernel), List.mem_of_getElem? (i := 372) (by decide +kernel), List.mem_of_getElem? (i := 373) (by decide +kernel)⟩
theorem lw_p6 : lw_okq (⟨"ArtifactBags$Bag", "want", "(I)V"⟩, 6) := ⟨⟨by decide +kernel, by decide +kernel⟩, List.mem_of_getElem? (i := 21) (by decide +kernel), List.mem_of_getElem? (i := 380) (by decide +kernel), List.mem_of_getElem? (i := 381) (by decide +kernel)⟩
theorem lw_p7 : lw_okq (⟨"ArtifactBags$Bag", "noteIfCheckIn", "(LArtifactBags$Artifact;)V"⟩, 6) := ⟨⟨by decide +kernel, by decide +kernel⟩, List.mem_of_getElem? (i := 21) (by decide +kernel), List.mem_of_getElem? (i := 400) (by decide +kernel), List.mem_of_getElem? (i := 401) (by decide +kernel)⟩
theorem lw_p8 : lw_okq (⟨"ArtifactBags$Bag", "isLoose", "(LArtifactBags$Artifact;)Z"⟩, 6) := ⟨⟨by decide +kernel, by decide +kernel⟩, List.mem_of_getElem? (i := 21) (by decide +kernel), List.mem_of_getElem? (i := 425) (by decide +kernel), List.mem_of_getElem? (i := 426) (by decide +kernel)⟩
theorem lw_p9 : lw_okq (⟨"ArtifactBags", "artifactOf", "(II)LArtifactBags$Artifact;"⟩, 4) := ⟨⟨by decide +kernel, by decide +kernel⟩, List.mem_of_getElem? (i := 13) (by decide +kernel), List.mem_of_getElem? (i := 458) (by decide +kernel), List.mem_of_getElem? (i := 459) (by decide +kernel)⟩
theorem lw_p10 : lw_okq (⟨"ArtifactBagsModel", "digest", "(III)I"⟩, 17) := ⟨⟨by decide +kernel, by decide +kernel⟩, List.mem_of_getElem? (i := 542) (by decide +kernel), List.mem_of_getElem? (i := 611) (by decide +kernel), List.mem_of_getElem? (i := 612) (by decide +kernel)⟩
theorem lw_p11 : lw_okq (⟨"ArtifactBagsModel", "at", "(II)I"⟩, 17) := ⟨⟨by decide +kernel, by decide +kernel⟩, List.mem_of_getElem? (i := 542) (by decide +kernel), List.mem_of_getElem? (i := 616) (by decide +kernel), List.mem_of_getElem? (i := 617) (by decide +kernel)⟩
theorem lw_p12 : lw_okq (⟨"ArtifactBagsModel", "write", "(II)V"⟩, 17) := ⟨⟨by decide +kernel, by decide +kernel⟩, List.mem_of_getElem? (i := 542) (by decide +kernel), List.mem_of_getElem? (i := 624) (by decide +kernel), List.mem_of_getElem? (i := 625) (by decide +kernel)⟩
theorem lw_p13 : lw_okq (⟨"ArtifactBagsModel", "writeName", "(II)V"⟩, 17) := ⟨⟨by decide +kernel, by decide +kernel⟩, List.mem_of_getElem? (i := 542) (by decide +kernel), List.mem_of_getElem? (i := 628) (by decide +kernel), List.mem_of_getElem? (i := 629) (by decide +kernel)⟩
theorem lw_p14 : lw_okq (⟨"ArtifactBagsModel", "filesOf", "(II)I"⟩, 17) := ⟨⟨by decide +kernel, by decide +kernel⟩, List.mem_of_getElem? (i := 542) (by decide +kernel), List.mem_of_getElem? (i := 648) (by decide +kernel), List.mem_of_getElem? (i := 649) (by decide +kernel)⟩
theorem lw_p15 : lw_okq (⟨"ArtifactBagsModel", "readLine", "(II)Z"⟩, 17) := ⟨⟨by decide +kernel, by decide +kernel⟩, List.mem_of_getElem? (i := 542) (by decide +kernel), List.mem_of_getElem? (i := 652) (by decide +kernel), List.mem_of_getElem? (i := 653) (by decide +kernel)⟩
def lw_privs_1 : List (MethodName × Nat) := [(⟨"ArtifactBags", "writeCard", "(III)V"⟩, 4), (⟨"ArtifactBags$Row", "addSpaceAndName", "(I)V"⟩, 2), (⟨"ArtifactBags", "bagOf", "(I)LArtifactBags$Bag;"⟩, 4), (⟨"ArtifactBags$Bag", "insert", "(LArtifactBags$Artifact;)V"⟩, 6), (⟨"ArtifactBags$NameSet", "placeOf", "(I)I"⟩, 2), (⟨"ArtifactBags$Bag", "noteNamesOf", "(LArtifactBags$Artifact;)V"⟩, 6), (⟨"ArtifactBags$Bag", "want", "(I)V"⟩, 6), (⟨"ArtifactBags$Bag", "noteIfCheckIn", "(LArtifactBags$Artifact;)V"⟩, 6), (⟨"ArtifactBags$Bag", "isLoose", "(LArtifactBags$Artifact;)Z"⟩, 6), (⟨"ArtifactBags", "artifactOf", "(II)LArtifactBags$Artifact;"⟩, 4), (⟨"ArtifactBagsModel", "digest", "(III)I"⟩, 17), (⟨"ArtifactBagsModel", "at", "(II)I"⟩, 17), (⟨"ArtifactBagsModel", "write", "(II)V"⟩, 17), (⟨"ArtifactBagsModel", "writeName", "(II)V"⟩, 17), (⟨"ArtifactBagsModel", "filesOf", "(II)I"⟩, 17), (⟨"ArtifactBagsModel", "readLine", "(II)Z"⟩, 17)]
theorem lw_r1 : ∀ q ∈ lw_privs_1, lw_okq q := List.forall_mem_cons.mpr ⟨lw_p0, List.forall_mem_cons.mpr ⟨lw_p1, List.forall_mem_cons.mpr ⟨lw_p2, List.forall_mem_cons.mpr ⟨lw_p3, List.forall_mem_cons.mpr ⟨lw_p4, List.forall_mem_cons.mpr ⟨lw_p5, List.forall_mem_cons.mpr ⟨lw_p6, List.forall_mem_cons.mpr ⟨lw_p7, List.forall_mem_cons.mpr ⟨lw_p8, List.forall_mem_cons.mpr ⟨lw_p9, List.forall_mem_cons.mpr ⟨lw_p10, List.forall_mem_cons.mpr ⟨lw_p11, List.forall_mem_cons.mpr ⟨lw_p12, List.forall_mem_cons.mpr ⟨lw_p13, List.forall_mem_cons.mpr ⟨lw_p14, List.forall_mem_cons.mpr ⟨lw_p15, fun _ h => absurd h List.not_mem_nil⟩⟩⟩⟩⟩⟩⟩⟩⟩⟩⟩⟩⟩⟩⟩⟩
theorem lw_p16 : lw_okq (⟨"ArtifactBagsModel", "isCard", "(III)Z"⟩, 17) := ⟨⟨by decide +kernel, by decide +kernel⟩, List.mem_of_getElem? (i := 542) (by decide +kernel), List.mem_of_getElem? (i := 656) (by decide +kernel), List.mem_of_getElem? (i := 657) (by decide +kernel)⟩
theorem lw_p17 : lw_okq (⟨"ArtifactBagsModel", "isNumber", "(III)Z"⟩, 17) := ⟨⟨by decide +kernel, by decide +kernel⟩, List.mem_of_getElem? (i := 542) (by decide +kernel), List.mem_of_getElem? (i := 660) (by decide +kernel), List.mem_of_getElem? (i := 661) (by decide +kernel)⟩
theorem lw_p18 : lw_okq (⟨"ArtifactBagsModel", "nameAt", "(II)I"⟩, 17) := ⟨⟨by decide +kernel, by decide +kernel⟩, List.mem_of_getElem? (i := 542) (by decide +kernel), List.mem_of_getElem? (i := 667) (by decide +kernel), List.mem_of_getElem? (i := 668) (by decide +kernel)⟩
theorem lw_p19 : lw_okq (⟨"ArtifactBagsModel", "isParent", "(III)Z"⟩, 17) := ⟨⟨by decide +kernel, by decide +kernel⟩, List.mem_of_getElem? (i := 542) (by decide +kernel), List.mem_of_getElem? (i := 671) (by decide +kernel), List.mem_of_getElem? (i := 672) (by decide +kernel)⟩
theorem lw_p20 : lw_okq (⟨"ArtifactBagsModel", "isTag", "(III)Z"⟩, 17) := ⟨⟨by decide +kernel, by decide +kernel⟩, List.mem_of_getElem? (i := 542) (by decide +kernel), List.mem_of_getElem? (i := 675) (by decide +kernel), List.mem_of_getElem? (i := 676) (by decide +kernel)⟩
theorem lw_p21 : lw_okq (⟨"ArtifactBagsModel", "find", "(II)I"⟩, 17) := ⟨⟨by decide +kernel, by decide +kernel⟩, List.mem_of_getElem? (i := 542) (by decide +kernel), List.mem_of_getElem? (i := 679) (by decide +kernel), List.mem_of_getElem? (i := 680) (by decide +kernel)⟩
theorem lw_p22 : lw_okq (⟨"ArtifactBagsModel", "hold", "(III)V"⟩, 17) := ⟨⟨by decide +kernel, by decide +kernel⟩, List.mem_of_getElem? (i := 542) (by decide +kernel), List.mem_of_getElem? (i := 687) (by decide +kernel), List.mem_of_getElem? (i := 688) (by decide +kernel)⟩
theorem lw_p23 : lw_okq (⟨"ArtifactBagsModel", "makeCluster", "(I)V"⟩, 17) := ⟨⟨by decide +kernel, by decide +kernel⟩, List.mem_of_getElem? (i := 542) (by decide +kernel), List.mem_of_getElem? (i := 695) (by decide +kernel), List.mem_of_getElem? (i := 696) (by decide +kernel)⟩
theorem lw_p24 : lw_okq (⟨"ArtifactBagsModel", "listLoose", "(I)V"⟩, 17) := ⟨⟨by decide +kernel, by decide +kernel⟩, List.mem_of_getElem? (i := 542) (by decide +kernel), List.mem_of_getElem? (i := 699) (by decide +kernel), List.mem_of_getElem? (i := 700) (by decide +kernel)⟩
theorem lw_p25 : lw_okq (⟨"ArtifactBagsModel", "clustered", "(II)Z"⟩, 17) := ⟨⟨by decide +kernel, by decide +kernel⟩, List.mem_of_getElem? (i := 542) (by decide +kernel), List.mem_of_getElem? (i := 703) (by decide +kernel), List.mem_of_getElem? (i := 704) (by decide +kernel)⟩
theorem lw_p26 : lw_okq (⟨"ArtifactBagsModel", "sort", "(I)I"⟩, 17) := ⟨⟨by decide +kernel, by decide +kernel⟩, List.mem_of_getElem? (i := 542) (by decide +kernel), List.mem_of_getElem? (i := 707) (by decide +kernel), List.mem_of_getElem? (i := 708) (by decide +kernel)⟩
theorem lw_p27 : lw_okq (⟨"ArtifactBagsModel", "has", "(III)Z"⟩, 17) := ⟨⟨by decide +kernel, by decide +kernel⟩, List.mem_of_getElem? (i := 542) (by decide +kernel), List.mem_of_getElem? (i := 711) (by decide +kernel), List.mem_of_getElem? (i := 712) (by decide +kernel)⟩
theorem lw_p28 : lw_okq (⟨"ArtifactBagsModel", "enlist", "(I)V"⟩, 17) := ⟨⟨by decide +kernel, by decide +kernel⟩, List.mem_of_getElem? (i := 542) (by decide +kernel), List.mem_of_getElem? (i := 715) (by decide +kernel), List.mem_of_getElem? (i := 716) (by decide +kernel)⟩
theorem lw_p29 : lw_okq (⟨"ArtifactBagsModel", "message", "(II)I"⟩, 17) := ⟨⟨by decide +kernel, by decide +kernel⟩, List.mem_of_getElem? (i := 542) (by decide +kernel), List.mem_of_getElem? (i := 719) (by decide +kernel), List.mem_of_getElem? (i := 720) (by decide +kernel)⟩
theorem lw_p30 : lw_okq (⟨"ArtifactBagsModel", "tell", "(II)V"⟩, 17) := ⟨⟨by decide +kernel, by decide +kernel⟩, List.mem_of_getElem? (i := 542) (by decide +kernel), List.mem_of_getElem? (i := 723) (by decide +kernel), List.mem_of_getElem? (i := 724) (by decide +kernel)⟩
theorem lw_p31 : lw_okq (⟨"ArtifactBagsModel", "listWanted", "(I)V"⟩, 17) := ⟨⟨by decide +kernel, by decide +kernel⟩, List.mem_of_getElem? (i := 542) (by decide +kernel), List.mem_of_getElem? (i := 727) (by decide +kernel), List.mem_of_getElem? (i := 728) (by decide +kernel)⟩
def lw_privs_2 : List (MethodName × Nat) := [(⟨"ArtifactBagsModel", "isCard", "(III)Z"⟩, 17), (⟨"ArtifactBagsModel", "isNumber", "(III)Z"⟩, 17), (⟨"ArtifactBagsModel", "nameAt", "(II)I"⟩, 17), (⟨"ArtifactBagsModel", "isParent", "(III)Z"⟩, 17), (⟨"ArtifactBagsModel", "isTag", "(III)Z"⟩, 17), (⟨"ArtifactBagsModel", "find", "(II)I"⟩, 17), (⟨"ArtifactBagsModel", "hold", "(III)V"⟩, 17), (⟨"ArtifactBagsModel", "makeCluster", "(I)V"⟩, 17), (⟨"ArtifactBagsModel", "listLoose", "(I)V"⟩, 17), (⟨"ArtifactBagsModel", "clustered", "(II)Z"⟩, 17), (⟨"ArtifactBagsModel", "sort", "(I)I"⟩, 17), (⟨"ArtifactBagsModel", "has", "(III)Z"⟩, 17), (⟨"ArtifactBagsModel", "enlist", "(I)V"⟩, 17), (⟨"ArtifactBagsModel", "message", "(II)I"⟩, 17), (⟨"ArtifactBagsModel", "tell", "(II)V"⟩, 17), (⟨"ArtifactBagsModel", "listWanted", "(I)V"⟩, 17)]
theorem lw_r2 : ∀ q ∈ lw_privs_2, lw_okq q := List.forall_mem_cons.mpr ⟨lw_p16, List.forall_mem_cons.mpr ⟨lw_p17, List.forall_mem_cons.mpr ⟨lw_p18, List.forall_mem_cons.mpr ⟨lw_p19, List.forall_mem_cons.mpr ⟨lw_p20, List.forall_mem_cons.mpr ⟨lw_p21, List.forall_mem_cons.mpr ⟨lw_p22, List.forall_mem_cons.mpr ⟨lw_p23, List.forall_mem_cons.mpr ⟨lw_p24, List.forall_mem_cons.mpr ⟨lw_p25, List.forall_mem_cons.mpr ⟨lw_p26, List.forall_mem_cons.mpr ⟨lw_p27, List.forall_mem_cons.mpr ⟨lw_p28, List.forall_mem_cons.mpr ⟨lw_p29, List.forall_mem_cons.mpr ⟨lw_p30, List.forall_mem_cons.mpr ⟨lw_p31, fun _ h => absurd h List.not_mem_nil⟩⟩⟩⟩⟩⟩⟩⟩⟩⟩⟩⟩⟩⟩⟩⟩
theorem lw_p32 : lw_okq (⟨"ArtifactBagsModel", "lack", "(II)V"⟩, 17) := ⟨⟨by decide +kernel, by decide +kernel⟩, List.mem_of_getElem? (i := 542) (by decide +kernel), List.mem_of_getElem? (i := 731) (by decide +kernel), List.mem_of_getElem? (i := 732) (by decide +kernel)⟩
theorem lw_p33 : lw_okq (⟨"ArtifactBagsModel", "isCheckIn", "(II)Z"⟩, 17) := ⟨⟨by decide +kernel, by decide +kernel⟩, List.mem_of_getElem? (i := 542) (by decide +kernel), List.mem_of_getElem? (i := 763) (by decide +kernel), List.mem_of_getElem? (i := 764) (by decide +kernel)⟩
theorem lw_p34 : lw_okq (⟨"ArtifactBagsModel", "timeOf", "(I)I"⟩, 17) := ⟨⟨by decide +kernel, by decide +kernel⟩, List.mem_of_getElem? (i := 542) (by decide +kernel), List.mem_of_getElem? (i := 771) (by decide +kernel), List.mem_of_getElem? (i := 772) (by decide +kernel)⟩
theorem lw_p35 : lw_okq (⟨"ArtifactBagsModel", "signOf", "(III)I"⟩, 17) := ⟨⟨by decide +kernel, by decide +kernel⟩, List.mem_of_getElem? (i := 542) (by decide +kernel), List.mem_of_getElem? (i := 788) (by decide +kernel), List.mem_of_getElem? (i := 789) (by decide +kernel)⟩
def lw_privs_3 : List (MethodName × Nat) := [(⟨"ArtifactBagsModel", "lack", "(II)V"⟩, 17), (⟨"ArtifactBagsModel", "isCheckIn", "(II)Z"⟩, 17), (⟨"ArtifactBagsModel", "timeOf", "(I)I"⟩, 17), (⟨"ArtifactBagsModel", "signOf", "(III)I"⟩, 17)]
theorem lw_r3 : ∀ q ∈ lw_privs_3, lw_okq q := List.forall_mem_cons.mpr ⟨lw_p32, List.forall_mem_cons.mpr ⟨lw_p33, List.forall_mem_cons.mpr ⟨lw_p34, List.forall_mem_cons.mpr ⟨lw_p35, fun _ h => absurd h List.not_mem_nil⟩⟩⟩⟩
def lw_privs : List (MethodName × Nat) := lw_privs_1 ++ (lw_privs_2 ++ (lw_privs_3))
def lw_tbl : List Cond := k2_sels lw_privs ++ tables_1
theorem lw_privs_ok : ∀ q ∈ lw_privs, lw_okq q := by
  show ∀ q ∈ lw_privs_1 ++ (lw_privs_2 ++ (lw_privs_3)), lw_okq q
  exact List.forall_mem_append.mpr ⟨lw_r1, List.forall_mem_append.mpr ⟨lw_r2, lw_r3⟩⟩

/-! The tables, as Z takes them. Own work. -/
def zF_m : u_T := fun k => match k with
  | 0 => ("ArtifactBagsModel", "cells", "[B", true)
  | 1 => ("ArtifactBagsModel", "length", "[I", true)
  | 2 => ("ArtifactBagsModel", "named", "[I", true)
  | 3 => ("ArtifactBagsModel", "many", "[I", true)
  | 4 => ("ArtifactBagsModel", "told", "[I", true)
  | 5 => ("ArtifactBagsModel", "tolds", "[I", true)
  | 6 => ("ArtifactBagsModel", "asked", "[I", true)
  | 7 => ("ArtifactBagsModel", "askeds", "[I", true)
  | 8 => ("ArtifactBagsModel", "list", "[I", true)
  | 9 => ("ArtifactBagsModel", "listed", "I", false)
  | 10 => ("ArtifactBagsModel", "lineEnd", "I", false)
  | 11 => ("ArtifactBagsModel", "letter", "I", false)
  | 12 => ("ArtifactBagsModel", "digit", "I", false)
  | 13 => ("ArtifactBagsModel", "plus", "Z", false)
  | 14 => ("ArtifactBagsModel", "x", "I", false)
  | 15 => ("ArtifactBagsModel", "y", "I", false)
  | _ => ("ArtifactBagsModel", "number", "I", false)
def zt_m : Nat → FieldType := fun k => match k with
  | 0 => .array .byte
  | 1 => .array .int
  | 2 => .array .int
  | 3 => .array .int
  | 4 => .array .int
  | 5 => .array .int
  | 6 => .array .int
  | 7 => .array .int
  | 8 => .array .int
  | 9 => .int
  | 10 => .int
  | 11 => .int
  | 12 => .int
  | 13 => .boolean
  | 14 => .int
  | 15 => .int
  | _ => .int
def zF_B : u_T := fun k => match k with
  | 0 => ("ArtifactBags", "zeroth", "LArtifactBags$Bag;", true)
  | 1 => ("ArtifactBags", "other", "LArtifactBags$Bag;", true)
  | 2 => ("ArtifactBags", "draft", "LArtifactBags$Row;", true)
  | _ => ("ArtifactBags", "scratch", "LArtifactBags$Row;", true)
def zt_B : Nat → FieldType := fun k => match k with
  | 0 => .object "ArtifactBags$Bag"
  | 1 => .object "ArtifactBags$Bag"
  | 2 => .object "ArtifactBags$Row"
  | _ => .object "ArtifactBags$Row"
def zF_A : u_T := fun k => match k with
  | 0 => ("ArtifactBags$Artifact", "bytes", "[B", true)
  | 1 => ("ArtifactBags$Artifact", "name", "I", true)
  | 2 => ("ArtifactBags$Artifact", "sort", "I", true)
  | 3 => ("ArtifactBags$Artifact", "cards", "[LArtifactBags$Card;", true)
  | 4 => ("ArtifactBags$Artifact", "time", "I", true)
  | _ => ("ArtifactBags$Artifact", "filesDigest", "I", true)
def zt_A : Nat → FieldType := fun k => match k with
  | 0 => .array .byte
  | 1 => .int
  | 2 => .int
  | 3 => .array (.object "ArtifactBags$Card")
  | 4 => .int
  | _ => .int
def zF_G : u_T := fun k => match k with
  | 0 => ("ArtifactBags$Bag", "artifacts", "[LArtifactBags$Artifact;", true)
  | 1 => ("ArtifactBags$Bag", "count", "I", false)
  | 2 => ("ArtifactBags$Bag", "history", "LArtifactBags$History;", true)
  | 3 => ("ArtifactBags$Bag", "missing", "LArtifactBags$NameSet;", true)
  | 4 => ("ArtifactBags$Bag", "clustered", "LArtifactBags$NameSet;", true)
  | _ => ("ArtifactBags$Bag", "asked", "LArtifactBags$NameSet;", true)
def zt_G : Nat → FieldType := fun k => match k with
  | 0 => .array (.object "ArtifactBags$Artifact")
  | 1 => .int
  | 2 => .object "ArtifactBags$History"
  | 3 => .object "ArtifactBags$NameSet"
  | 4 => .object "ArtifactBags$NameSet"
  | _ => .object "ArtifactBags$NameSet"
def zF_C : u_T := fun k => match k with
  | 0 => ("ArtifactBags$Card", "letter", "I", true)
  | 1 => ("ArtifactBags$Card", "digit", "I", true)
  | 2 => ("ArtifactBags$Card", "plus", "Z", true)
  | 3 => ("ArtifactBags$Card", "x", "I", true)
  | _ => ("ArtifactBags$Card", "y", "I", true)
def zt_C : Nat → FieldType := fun k => match k with
  | 0 => .int
  | 1 => .int
  | 2 => .boolean
  | 3 => .int
  | _ => .int
def zF_H : u_T := fun k => match k with
  | 0 => ("ArtifactBags$History", "checkedIn", "[LArtifactBags$Artifact;", true)
  | _ => ("ArtifactBags$History", "count", "I", false)
def zt_H : Nat → FieldType := fun k => match k with
  | 0 => .array (.object "ArtifactBags$Artifact")
  | _ => .int
def zF_N : u_T := fun k => match k with
  | 0 => ("ArtifactBags$NameSet", "names", "[I", false)
  | _ => ("ArtifactBags$NameSet", "size", "I", false)
def zt_N : Nat → FieldType := fun k => match k with
  | 0 => .array .int
  | _ => .int
def zF_R : u_T := fun k => match k with
  | 0 => ("ArtifactBags$Row", "bytes", "[B", true)
  | _ => ("ArtifactBags$Row", "length", "I", false)
def zt_R : Nat → FieldType := fun k => match k with
  | 0 => .array .byte
  | _ => .int
abbrev ciM : Nat := 0
abbrev zcl : List vw_C := [("ArtifactBagsModel", zF_m, 17), ("ArtifactBags", zF_B, 4), ("ArtifactBags$Artifact", zF_A, 6), ("ArtifactBags$Bag", zF_G, 6), ("ArtifactBags$Card", zF_C, 5), ("ArtifactBags$History", zF_H, 2), ("ArtifactBags$NameSet", zF_N, 2), ("ArtifactBags$Row", zF_R, 2)]
abbrev zty (aC : Nat → ClassId) : List (ClassId × FieldType) := [(aC 0, .byte), (aC 1, .int), (aC 2, .object "ArtifactBags$Artifact"), (aC 3, .object "ArtifactBags$Card")]
def zisN : Cond → Bool
  | .fieldLinkNest .. => true
  | .methodLinkNest .. => true
  | .castable .. => true
  | _ => false
def zT : List Cond := lw_tbl.filter goodWord
def zNest : List Cond := tables_1.filter zisN
def zOver : List String := ["ArtifactBags$Artifact", "ArtifactBags$Card"]
theorem zGd : GoodIn zT zT := fun w hw => ⟨hw, good_of_word (List.mem_filter.mp hw).2⟩
theorem zNs : zNest.all zisN = true := List.all_eq_true.mpr fun w hw => (List.mem_filter.mp hw).2
theorem zin (i : Nat) {w : Cond} (h : tables_1[i]? = some w) (hg : goodWord w = true) : w ∈ zT := List.mem_filter.mpr ⟨List.mem_append_right _ (List.mem_of_getElem? h), hg⟩
theorem zinS (i : Nat) {w : Cond} (h : (k2_sels lw_privs)[i]? = some w) (hg : goodWord w = true) : w ∈ zT := List.mem_filter.mpr ⟨List.mem_append_left _ (List.mem_of_getElem? h), hg⟩
theorem zinN (i : Nat) {w : Cond} (h : tables_1[i]? = some w) (hg : zisN w = true) : w ∈ zNest := List.mem_filter.mpr ⟨List.mem_of_getElem? h, hg⟩
