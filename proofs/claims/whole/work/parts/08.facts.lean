/-! Facts of classes, fields, methods, links: by their places in the tables. Own work. -/
set_option maxRecDepth 100000 in
theorem zlay {C : String} {T : u_T} {N : Nat} (ps : List Nat) (h : u_ws C T N = ps.filterMap (fun i => tables_1[i]?)) (hg : (u_ws C T N).all goodWord = true) : ∀ w ∈ u_ws C T N, w ∈ zT := by
  intro w hw
  have h1 := List.all_eq_true.mp hg w hw
  rw [h] at hw
  obtain ⟨i, -, hi⟩ := List.mem_filterMap.mp hw
  exact zin i hi h1
set_option maxRecDepth 100000 in
theorem zc_m : zCl 0 "ArtifactBagsModel" zF_m 17 zt_m := ⟨rfl, zlay [564, 566, 568, 570, 572, 574, 576, 578, 580, 582, 584, 586, 588, 590, 592, 594, 596] (by decide +kernel) (by decide +kernel), (by decide +kernel), (by decide +kernel)⟩
set_option maxRecDepth 100000 in
theorem zc_B : zCl 1 "ArtifactBags" zF_B 4 zt_B := ⟨rfl, zlay [103, 105, 107, 109] (by decide +kernel) (by decide +kernel), (by decide +kernel), (by decide +kernel)⟩
set_option maxRecDepth 100000 in
theorem zc_A : zCl 2 "ArtifactBags$Artifact" zF_A 6 zt_A := ⟨rfl, zlay [339, 341, 343, 345, 347, 349] (by decide +kernel) (by decide +kernel), (by decide +kernel), (by decide +kernel)⟩
set_option maxRecDepth 100000 in
theorem zc_G : zCl 3 "ArtifactBags$Bag" zF_G 6 zt_G := ⟨rfl, zlay [68, 70, 72, 74, 76, 78] (by decide +kernel) (by decide +kernel), (by decide +kernel), (by decide +kernel)⟩
set_option maxRecDepth 100000 in
theorem zc_C : zCl 4 "ArtifactBags$Card" zF_C 5 zt_C := ⟨rfl, zlay [222, 224, 226, 228, 230] (by decide +kernel) (by decide +kernel), (by decide +kernel), (by decide +kernel)⟩
set_option maxRecDepth 100000 in
theorem zc_H : zCl 5 "ArtifactBags$History" zF_H 2 zt_H := ⟨rfl, zlay [38, 40] (by decide +kernel) (by decide +kernel), (by decide +kernel), (by decide +kernel)⟩
set_option maxRecDepth 100000 in
theorem zc_N : zCl 6 "ArtifactBags$NameSet" zF_N 2 zt_N := ⟨rfl, zlay [52, 54] (by decide +kernel) (by decide +kernel), (by decide +kernel), (by decide +kernel)⟩
set_option maxRecDepth 100000 in
theorem zc_R : zCl 7 "ArtifactBags$Row" zF_R 2 zt_R := ⟨rfl, zlay [93, 95] (by decide +kernel) (by decide +kernel), (by decide +kernel), (by decide +kernel)⟩
set_option maxRecDepth 100000 in
theorem f_B_10 : zFld "ArtifactBags" 10 1 0 (.object "ArtifactBags$Bag") := ⟨"ArtifactBags", zF_B, 4, zt_B, zc_B, by decide, rfl, Or.inl (zin 99 rfl rfl)⟩
set_option maxRecDepth 100000 in
theorem p_B_10 : zFldP "ArtifactBags" "<init>" 10 1 0 (.object "ArtifactBags$Bag") := ⟨"ArtifactBags", zF_B, 4, zt_B, zc_B, by decide, rfl, Or.inr ⟨rfl, rfl, rfl, zin 99 rfl rfl⟩⟩
set_option maxRecDepth 100000 in
theorem f_B_16 : zFld "ArtifactBags" 16 1 1 (.object "ArtifactBags$Bag") := ⟨"ArtifactBags", zF_B, 4, zt_B, zc_B, by decide, rfl, Or.inl (zin 100 rfl rfl)⟩
set_option maxRecDepth 100000 in
theorem p_B_16 : zFldP "ArtifactBags" "<init>" 16 1 1 (.object "ArtifactBags$Bag") := ⟨"ArtifactBags", zF_B, 4, zt_B, zc_B, by decide, rfl, Or.inr ⟨rfl, rfl, rfl, zin 100 rfl rfl⟩⟩
set_option maxRecDepth 100000 in
theorem f_B_22 : zFld "ArtifactBags" 22 1 2 (.object "ArtifactBags$Row") := ⟨"ArtifactBags", zF_B, 4, zt_B, zc_B, by decide, rfl, Or.inl (zin 101 rfl rfl)⟩
set_option maxRecDepth 100000 in
theorem p_B_22 : zFldP "ArtifactBags" "<init>" 22 1 2 (.object "ArtifactBags$Row") := ⟨"ArtifactBags", zF_B, 4, zt_B, zc_B, by decide, rfl, Or.inr ⟨rfl, rfl, rfl, zin 101 rfl rfl⟩⟩
set_option maxRecDepth 100000 in
theorem f_B_26 : zFld "ArtifactBags" 26 1 3 (.object "ArtifactBags$Row") := ⟨"ArtifactBags", zF_B, 4, zt_B, zc_B, by decide, rfl, Or.inl (zin 102 rfl rfl)⟩
set_option maxRecDepth 100000 in
theorem p_B_26 : zFldP "ArtifactBags" "<init>" 26 1 3 (.object "ArtifactBags$Row") := ⟨"ArtifactBags", zF_B, 4, zt_B, zc_B, by decide, rfl, Or.inr ⟨rfl, rfl, rfl, zin 102 rfl rfl⟩⟩
set_option maxRecDepth 100000 in
theorem f_B_40 : zFld "ArtifactBags" 40 7 1 (.int) := ⟨"ArtifactBags$Row", zF_R, 2, zt_R, zc_R, by decide, rfl, Or.inr ⟨"ArtifactBags", zinN 92 rfl rfl⟩⟩
set_option maxRecDepth 100000 in
theorem p_B_40 (nm : String) : zFldP "ArtifactBags" nm 40 7 1 (.int) := ⟨"ArtifactBags$Row", zF_R, 2, zt_R, zc_R, by decide, rfl, Or.inl ⟨rfl, Or.inr ⟨"ArtifactBags", zinN 92 rfl rfl⟩⟩⟩
set_option maxRecDepth 100000 in
theorem f_B_60 : zFld "ArtifactBags" 60 7 0 (.array .byte) := ⟨"ArtifactBags$Row", zF_R, 2, zt_R, zc_R, by decide, rfl, Or.inr ⟨"ArtifactBags", zinN 89 rfl rfl⟩⟩
set_option maxRecDepth 100000 in
theorem f_B_102 : zFld "ArtifactBags" 102 3 1 (.int) := ⟨"ArtifactBags$Bag", zF_G, 6, zt_G, zc_G, by decide, rfl, Or.inr ⟨"ArtifactBags", zinN 61 rfl rfl⟩⟩
set_option maxRecDepth 100000 in
theorem p_B_102 (nm : String) : zFldP "ArtifactBags" nm 102 3 1 (.int) := ⟨"ArtifactBags$Bag", zF_G, 6, zt_G, zc_G, by decide, rfl, Or.inl ⟨rfl, Or.inr ⟨"ArtifactBags", zinN 61 rfl rfl⟩⟩⟩
set_option maxRecDepth 100000 in
theorem f_B_105 : zFld "ArtifactBags" 105 3 0 (.array (.object "ArtifactBags$Artifact")) := ⟨"ArtifactBags$Bag", zF_G, 6, zt_G, zc_G, by decide, rfl, Or.inr ⟨"ArtifactBags", zinN 59 rfl rfl⟩⟩
set_option maxRecDepth 100000 in
theorem f_B_109 : zFld "ArtifactBags" 109 2 1 (.int) := ⟨"ArtifactBags$Artifact", zF_A, 6, zt_A, zc_A, by decide, rfl, Or.inr ⟨"ArtifactBags", zinN 329 rfl rfl⟩⟩
set_option maxRecDepth 100000 in
theorem f_B_116 : zFld "ArtifactBags" 116 2 0 (.array .byte) := ⟨"ArtifactBags$Artifact", zF_A, 6, zt_A, zc_A, by decide, rfl, Or.inr ⟨"ArtifactBags", zinN 324 rfl rfl⟩⟩
set_option maxRecDepth 100000 in
theorem f_B_117 : zFld "ArtifactBags" 117 2 2 (.int) := ⟨"ArtifactBags$Artifact", zF_A, 6, zt_A, zc_A, by decide, rfl, Or.inr ⟨"ArtifactBags", zinN 332 rfl rfl⟩⟩
set_option maxRecDepth 100000 in
theorem f_B_120 : zFld "ArtifactBags" 120 3 3 (.object "ArtifactBags$NameSet") := ⟨"ArtifactBags$Bag", zF_G, 6, zt_G, zc_G, by decide, rfl, Or.inr ⟨"ArtifactBags", zinN 65 rfl rfl⟩⟩
set_option maxRecDepth 100000 in
theorem f_B_124 : zFld "ArtifactBags" 124 6 1 (.int) := ⟨"ArtifactBags$NameSet", zF_N, 2, zt_N, zc_N, by decide, rfl, Or.inr ⟨"ArtifactBags", zinN 51 rfl rfl⟩⟩
set_option maxRecDepth 100000 in
theorem p_B_124 (nm : String) : zFldP "ArtifactBags" nm 124 6 1 (.int) := ⟨"ArtifactBags$NameSet", zF_N, 2, zt_N, zc_N, by decide, rfl, Or.inl ⟨rfl, Or.inr ⟨"ArtifactBags", zinN 51 rfl rfl⟩⟩⟩
set_option maxRecDepth 100000 in
theorem f_B_132 : zFld "ArtifactBags" 132 3 2 (.object "ArtifactBags$History") := ⟨"ArtifactBags$Bag", zF_G, 6, zt_G, zc_G, by decide, rfl, Or.inr ⟨"ArtifactBags", zinN 63 rfl rfl⟩⟩
set_option maxRecDepth 100000 in
theorem f_B_136 : zFld "ArtifactBags" 136 5 1 (.int) := ⟨"ArtifactBags$History", zF_H, 2, zt_H, zc_H, by decide, rfl, Or.inr ⟨"ArtifactBags", zinN 37 rfl rfl⟩⟩
set_option maxRecDepth 100000 in
theorem p_B_136 (nm : String) : zFldP "ArtifactBags" nm 136 5 1 (.int) := ⟨"ArtifactBags$History", zF_H, 2, zt_H, zc_H, by decide, rfl, Or.inl ⟨rfl, Or.inr ⟨"ArtifactBags", zinN 37 rfl rfl⟩⟩⟩
set_option maxRecDepth 100000 in
theorem f_A_9 : zFld "ArtifactBags$Artifact" 9 2 0 (.array .byte) := ⟨"ArtifactBags$Artifact", zF_A, 6, zt_A, zc_A, by decide, rfl, Or.inl (zin 323 rfl rfl)⟩
set_option maxRecDepth 100000 in
theorem p_A_9 : zFldP "ArtifactBags$Artifact" "<init>" 9 2 0 (.array .byte) := ⟨"ArtifactBags$Artifact", zF_A, 6, zt_A, zc_A, by decide, rfl, Or.inr ⟨rfl, rfl, rfl, zin 323 rfl rfl⟩⟩
set_option maxRecDepth 100000 in
theorem f_A_19 : zFld "ArtifactBags$Artifact" 19 2 1 (.int) := ⟨"ArtifactBags$Artifact", zF_A, 6, zt_A, zc_A, by decide, rfl, Or.inl (zin 326 rfl rfl)⟩
set_option maxRecDepth 100000 in
theorem p_A_19 : zFldP "ArtifactBags$Artifact" "<init>" 19 2 1 (.int) := ⟨"ArtifactBags$Artifact", zF_A, 6, zt_A, zc_A, by decide, rfl, Or.inr ⟨rfl, rfl, rfl, zin 326 rfl rfl⟩⟩
set_option maxRecDepth 100000 in
theorem f_A_23 : zFld "ArtifactBags$Artifact" 23 2 2 (.int) := ⟨"ArtifactBags$Artifact", zF_A, 6, zt_A, zc_A, by decide, rfl, Or.inl (zin 330 rfl rfl)⟩
set_option maxRecDepth 100000 in
theorem p_A_23 : zFldP "ArtifactBags$Artifact" "<init>" 23 2 2 (.int) := ⟨"ArtifactBags$Artifact", zF_A, 6, zt_A, zc_A, by decide, rfl, Or.inr ⟨rfl, rfl, rfl, zin 330 rfl rfl⟩⟩
set_option maxRecDepth 100000 in
theorem f_A_26 : zFld "ArtifactBags$Artifact" 26 2 3 (.array (.object "ArtifactBags$Card")) := ⟨"ArtifactBags$Artifact", zF_A, 6, zt_A, zc_A, by decide, rfl, Or.inl (zin 333 rfl rfl)⟩
set_option maxRecDepth 100000 in
theorem p_A_26 : zFldP "ArtifactBags$Artifact" "<init>" 26 2 3 (.array (.object "ArtifactBags$Card")) := ⟨"ArtifactBags$Artifact", zF_A, 6, zt_A, zc_A, by decide, rfl, Or.inr ⟨rfl, rfl, rfl, zin 333 rfl rfl⟩⟩
set_option maxRecDepth 100000 in
theorem f_A_34 : zFld "ArtifactBags$Artifact" 34 2 4 (.int) := ⟨"ArtifactBags$Artifact", zF_A, 6, zt_A, zc_A, by decide, rfl, Or.inl (zin 335 rfl rfl)⟩
set_option maxRecDepth 100000 in
theorem p_A_34 : zFldP "ArtifactBags$Artifact" "<init>" 34 2 4 (.int) := ⟨"ArtifactBags$Artifact", zF_A, 6, zt_A, zc_A, by decide, rfl, Or.inr ⟨rfl, rfl, rfl, zin 335 rfl rfl⟩⟩
set_option maxRecDepth 100000 in
theorem f_A_37 : zFld "ArtifactBags$Artifact" 37 2 5 (.int) := ⟨"ArtifactBags$Artifact", zF_A, 6, zt_A, zc_A, by decide, rfl, Or.inl (zin 337 rfl rfl)⟩
set_option maxRecDepth 100000 in
theorem p_A_37 : zFldP "ArtifactBags$Artifact" "<init>" 37 2 5 (.int) := ⟨"ArtifactBags$Artifact", zF_A, 6, zt_A, zc_A, by decide, rfl, Or.inr ⟨rfl, rfl, rfl, zin 337 rfl rfl⟩⟩
set_option maxRecDepth 100000 in
theorem f_A_40 : zFld "ArtifactBags$Artifact" 40 7 0 (.array .byte) := ⟨"ArtifactBags$Row", zF_R, 2, zt_R, zc_R, by decide, rfl, Or.inr ⟨"ArtifactBags", zinN 88 rfl rfl⟩⟩
set_option maxRecDepth 100000 in
theorem f_A_43 : zFld "ArtifactBags$Artifact" 43 7 1 (.int) := ⟨"ArtifactBags$Row", zF_R, 2, zt_R, zc_R, by decide, rfl, Or.inr ⟨"ArtifactBags", zinN 91 rfl rfl⟩⟩
set_option maxRecDepth 100000 in
theorem p_A_43 (nm : String) : zFldP "ArtifactBags$Artifact" nm 43 7 1 (.int) := ⟨"ArtifactBags$Row", zF_R, 2, zt_R, zc_R, by decide, rfl, Or.inl ⟨rfl, Or.inr ⟨"ArtifactBags", zinN 91 rfl rfl⟩⟩⟩
set_option maxRecDepth 100000 in
theorem f_A_81 : zFld "ArtifactBags$Artifact" 81 4 0 (.int) := ⟨"ArtifactBags$Card", zF_C, 5, zt_C, zc_C, by decide, rfl, Or.inr ⟨"ArtifactBags", zinN 210 rfl rfl⟩⟩
set_option maxRecDepth 100000 in
theorem f_A_84 : zFld "ArtifactBags$Artifact" 84 4 3 (.int) := ⟨"ArtifactBags$Card", zF_C, 5, zt_C, zc_C, by decide, rfl, Or.inr ⟨"ArtifactBags", zinN 217 rfl rfl⟩⟩
set_option maxRecDepth 100000 in
theorem f_A_93 : zFld "ArtifactBags$Artifact" 93 4 4 (.int) := ⟨"ArtifactBags$Card", zF_C, 5, zt_C, zc_C, by decide, rfl, Or.inr ⟨"ArtifactBags", zinN 221 rfl rfl⟩⟩
set_option maxRecDepth 100000 in
theorem f_A_96 : zFld "ArtifactBags$Artifact" 96 4 1 (.int) := ⟨"ArtifactBags$Card", zF_C, 5, zt_C, zc_C, by decide, rfl, Or.inr ⟨"ArtifactBags", zinN 213 rfl rfl⟩⟩
set_option maxRecDepth 100000 in
theorem f_G_11 : zFld "ArtifactBags$Bag" 11 3 0 (.array (.object "ArtifactBags$Artifact")) := ⟨"ArtifactBags$Bag", zF_G, 6, zt_G, zc_G, by decide, rfl, Or.inl (zin 58 rfl rfl)⟩
set_option maxRecDepth 100000 in
theorem p_G_11 : zFldP "ArtifactBags$Bag" "<init>" 11 3 0 (.array (.object "ArtifactBags$Artifact")) := ⟨"ArtifactBags$Bag", zF_G, 6, zt_G, zc_G, by decide, rfl, Or.inr ⟨rfl, rfl, rfl, zin 58 rfl rfl⟩⟩
set_option maxRecDepth 100000 in
theorem f_G_17 : zFld "ArtifactBags$Bag" 17 3 1 (.int) := ⟨"ArtifactBags$Bag", zF_G, 6, zt_G, zc_G, by decide, rfl, Or.inl (zin 60 rfl rfl)⟩
set_option maxRecDepth 100000 in
theorem p_G_17 (nm : String) : zFldP "ArtifactBags$Bag" nm 17 3 1 (.int) := ⟨"ArtifactBags$Bag", zF_G, 6, zt_G, zc_G, by decide, rfl, Or.inl ⟨rfl, Or.inl (zin 60 rfl rfl)⟩⟩
set_option maxRecDepth 100000 in
theorem f_G_24 : zFld "ArtifactBags$Bag" 24 3 2 (.object "ArtifactBags$History") := ⟨"ArtifactBags$Bag", zF_G, 6, zt_G, zc_G, by decide, rfl, Or.inl (zin 62 rfl rfl)⟩
set_option maxRecDepth 100000 in
theorem p_G_24 : zFldP "ArtifactBags$Bag" "<init>" 24 3 2 (.object "ArtifactBags$History") := ⟨"ArtifactBags$Bag", zF_G, 6, zt_G, zc_G, by decide, rfl, Or.inr ⟨rfl, rfl, rfl, zin 62 rfl rfl⟩⟩
set_option maxRecDepth 100000 in
theorem f_G_31 : zFld "ArtifactBags$Bag" 31 3 3 (.object "ArtifactBags$NameSet") := ⟨"ArtifactBags$Bag", zF_G, 6, zt_G, zc_G, by decide, rfl, Or.inl (zin 64 rfl rfl)⟩
set_option maxRecDepth 100000 in
theorem p_G_31 : zFldP "ArtifactBags$Bag" "<init>" 31 3 3 (.object "ArtifactBags$NameSet") := ⟨"ArtifactBags$Bag", zF_G, 6, zt_G, zc_G, by decide, rfl, Or.inr ⟨rfl, rfl, rfl, zin 64 rfl rfl⟩⟩
set_option maxRecDepth 100000 in
theorem f_G_35 : zFld "ArtifactBags$Bag" 35 3 4 (.object "ArtifactBags$NameSet") := ⟨"ArtifactBags$Bag", zF_G, 6, zt_G, zc_G, by decide, rfl, Or.inl (zin 66 rfl rfl)⟩
set_option maxRecDepth 100000 in
theorem p_G_35 : zFldP "ArtifactBags$Bag" "<init>" 35 3 4 (.object "ArtifactBags$NameSet") := ⟨"ArtifactBags$Bag", zF_G, 6, zt_G, zc_G, by decide, rfl, Or.inr ⟨rfl, rfl, rfl, zin 66 rfl rfl⟩⟩
set_option maxRecDepth 100000 in
theorem f_G_38 : zFld "ArtifactBags$Bag" 38 3 5 (.object "ArtifactBags$NameSet") := ⟨"ArtifactBags$Bag", zF_G, 6, zt_G, zc_G, by decide, rfl, Or.inl (zin 67 rfl rfl)⟩
set_option maxRecDepth 100000 in
theorem p_G_38 : zFldP "ArtifactBags$Bag" "<init>" 38 3 5 (.object "ArtifactBags$NameSet") := ⟨"ArtifactBags$Bag", zF_G, 6, zt_G, zc_G, by decide, rfl, Or.inr ⟨rfl, rfl, rfl, zin 67 rfl rfl⟩⟩
set_option maxRecDepth 100000 in
theorem f_G_45 : zFld "ArtifactBags$Bag" 45 2 1 (.int) := ⟨"ArtifactBags$Artifact", zF_A, 6, zt_A, zc_A, by decide, rfl, Or.inr ⟨"ArtifactBags", zinN 327 rfl rfl⟩⟩
set_option maxRecDepth 100000 in
theorem f_G_77 : zFld "ArtifactBags$Bag" 77 2 3 (.array (.object "ArtifactBags$Card")) := ⟨"ArtifactBags$Artifact", zF_A, 6, zt_A, zc_A, by decide, rfl, Or.inr ⟨"ArtifactBags", zinN 334 rfl rfl⟩⟩
set_option maxRecDepth 100000 in
theorem f_G_86 : zFld "ArtifactBags$Bag" 86 4 3 (.int) := ⟨"ArtifactBags$Card", zF_C, 5, zt_C, zc_C, by decide, rfl, Or.inr ⟨"ArtifactBags", zinN 218 rfl rfl⟩⟩
set_option maxRecDepth 100000 in
theorem f_G_92 : zFld "ArtifactBags$Bag" 92 4 4 (.int) := ⟨"ArtifactBags$Card", zF_C, 5, zt_C, zc_C, by decide, rfl, Or.inr ⟨"ArtifactBags", zinN 220 rfl rfl⟩⟩
set_option maxRecDepth 100000 in
theorem f_G_95 : zFld "ArtifactBags$Bag" 95 4 0 (.int) := ⟨"ArtifactBags$Card", zF_C, 5, zt_C, zc_C, by decide, rfl, Or.inr ⟨"ArtifactBags", zinN 211 rfl rfl⟩⟩
set_option maxRecDepth 100000 in
theorem f_G_101 : zFld "ArtifactBags$Bag" 101 2 2 (.int) := ⟨"ArtifactBags$Artifact", zF_A, 6, zt_A, zc_A, by decide, rfl, Or.inr ⟨"ArtifactBags", zinN 331 rfl rfl⟩⟩
set_option maxRecDepth 100000 in
theorem f_G_108 : zFld "ArtifactBags$Bag" 108 2 5 (.int) := ⟨"ArtifactBags$Artifact", zF_A, 6, zt_A, zc_A, by decide, rfl, Or.inr ⟨"ArtifactBags", zinN 338 rfl rfl⟩⟩
set_option maxRecDepth 100000 in
theorem f_G_113 : zFld "ArtifactBags$Bag" 113 2 0 (.array .byte) := ⟨"ArtifactBags$Artifact", zF_A, 6, zt_A, zc_A, by decide, rfl, Or.inr ⟨"ArtifactBags", zinN 325 rfl rfl⟩⟩
set_option maxRecDepth 100000 in
theorem f_G_132 : zFld "ArtifactBags$Bag" 132 2 4 (.int) := ⟨"ArtifactBags$Artifact", zF_A, 6, zt_A, zc_A, by decide, rfl, Or.inr ⟨"ArtifactBags", zinN 336 rfl rfl⟩⟩
set_option maxRecDepth 100000 in
theorem f_G_135 : zFld "ArtifactBags$Bag" 135 4 2 (.boolean) := ⟨"ArtifactBags$Card", zF_C, 5, zt_C, zc_C, by decide, rfl, Or.inr ⟨"ArtifactBags", zinN 215 rfl rfl⟩⟩
set_option maxRecDepth 100000 in
theorem f_C_9 : zFld "ArtifactBags$Card" 9 4 0 (.int) := ⟨"ArtifactBags$Card", zF_C, 5, zt_C, zc_C, by decide, rfl, Or.inl (zin 209 rfl rfl)⟩
set_option maxRecDepth 100000 in
theorem p_C_9 : zFldP "ArtifactBags$Card" "<init>" 9 4 0 (.int) := ⟨"ArtifactBags$Card", zF_C, 5, zt_C, zc_C, by decide, rfl, Or.inr ⟨rfl, rfl, rfl, zin 209 rfl rfl⟩⟩
set_option maxRecDepth 100000 in
theorem f_C_15 : zFld "ArtifactBags$Card" 15 4 1 (.int) := ⟨"ArtifactBags$Card", zF_C, 5, zt_C, zc_C, by decide, rfl, Or.inl (zin 212 rfl rfl)⟩
set_option maxRecDepth 100000 in
theorem p_C_15 : zFldP "ArtifactBags$Card" "<init>" 15 4 1 (.int) := ⟨"ArtifactBags$Card", zF_C, 5, zt_C, zc_C, by decide, rfl, Or.inr ⟨rfl, rfl, rfl, zin 212 rfl rfl⟩⟩
set_option maxRecDepth 100000 in
theorem f_C_18 : zFld "ArtifactBags$Card" 18 4 2 (.boolean) := ⟨"ArtifactBags$Card", zF_C, 5, zt_C, zc_C, by decide, rfl, Or.inl (zin 214 rfl rfl)⟩
set_option maxRecDepth 100000 in
theorem p_C_18 : zFldP "ArtifactBags$Card" "<init>" 18 4 2 (.boolean) := ⟨"ArtifactBags$Card", zF_C, 5, zt_C, zc_C, by decide, rfl, Or.inr ⟨rfl, rfl, rfl, zin 214 rfl rfl⟩⟩
set_option maxRecDepth 100000 in
theorem f_C_22 : zFld "ArtifactBags$Card" 22 4 3 (.int) := ⟨"ArtifactBags$Card", zF_C, 5, zt_C, zc_C, by decide, rfl, Or.inl (zin 216 rfl rfl)⟩
set_option maxRecDepth 100000 in
theorem p_C_22 : zFldP "ArtifactBags$Card" "<init>" 22 4 3 (.int) := ⟨"ArtifactBags$Card", zF_C, 5, zt_C, zc_C, by decide, rfl, Or.inr ⟨rfl, rfl, rfl, zin 216 rfl rfl⟩⟩
set_option maxRecDepth 100000 in
theorem f_C_25 : zFld "ArtifactBags$Card" 25 4 4 (.int) := ⟨"ArtifactBags$Card", zF_C, 5, zt_C, zc_C, by decide, rfl, Or.inl (zin 219 rfl rfl)⟩
set_option maxRecDepth 100000 in
theorem p_C_25 : zFldP "ArtifactBags$Card" "<init>" 25 4 4 (.int) := ⟨"ArtifactBags$Card", zF_C, 5, zt_C, zc_C, by decide, rfl, Or.inr ⟨rfl, rfl, rfl, zin 219 rfl rfl⟩⟩
set_option maxRecDepth 100000 in
theorem f_H_11 : zFld "ArtifactBags$History" 11 5 0 (.array (.object "ArtifactBags$Artifact")) := ⟨"ArtifactBags$History", zF_H, 2, zt_H, zc_H, by decide, rfl, Or.inl (zin 35 rfl rfl)⟩
set_option maxRecDepth 100000 in
theorem p_H_11 : zFldP "ArtifactBags$History" "<init>" 11 5 0 (.array (.object "ArtifactBags$Artifact")) := ⟨"ArtifactBags$History", zF_H, 2, zt_H, zc_H, by decide, rfl, Or.inr ⟨rfl, rfl, rfl, zin 35 rfl rfl⟩⟩
set_option maxRecDepth 100000 in
theorem f_H_17 : zFld "ArtifactBags$History" 17 5 1 (.int) := ⟨"ArtifactBags$History", zF_H, 2, zt_H, zc_H, by decide, rfl, Or.inl (zin 36 rfl rfl)⟩
set_option maxRecDepth 100000 in
theorem p_H_17 (nm : String) : zFldP "ArtifactBags$History" nm 17 5 1 (.int) := ⟨"ArtifactBags$History", zF_H, 2, zt_H, zc_H, by decide, rfl, Or.inl ⟨rfl, Or.inl (zin 36 rfl rfl)⟩⟩
set_option maxRecDepth 100000 in
theorem f_H_25 : zFld "ArtifactBags$History" 25 2 1 (.int) := ⟨"ArtifactBags$Artifact", zF_A, 6, zt_A, zc_A, by decide, rfl, Or.inr ⟨"ArtifactBags", zinN 328 rfl rfl⟩⟩
set_option maxRecDepth 100000 in
theorem f_N_7 : zFld "ArtifactBags$NameSet" 7 6 0 (.array .int) := ⟨"ArtifactBags$NameSet", zF_N, 2, zt_N, zc_N, by decide, rfl, Or.inl (zin 49 rfl rfl)⟩
set_option maxRecDepth 100000 in
theorem p_N_7 (nm : String) : zFldP "ArtifactBags$NameSet" nm 7 6 0 (.array .int) := ⟨"ArtifactBags$NameSet", zF_N, 2, zt_N, zc_N, by decide, rfl, Or.inl ⟨rfl, Or.inl (zin 49 rfl rfl)⟩⟩
set_option maxRecDepth 100000 in
theorem f_N_13 : zFld "ArtifactBags$NameSet" 13 6 1 (.int) := ⟨"ArtifactBags$NameSet", zF_N, 2, zt_N, zc_N, by decide, rfl, Or.inl (zin 50 rfl rfl)⟩
set_option maxRecDepth 100000 in
theorem p_N_13 (nm : String) : zFldP "ArtifactBags$NameSet" nm 13 6 1 (.int) := ⟨"ArtifactBags$NameSet", zF_N, 2, zt_N, zc_N, by decide, rfl, Or.inl ⟨rfl, Or.inl (zin 50 rfl rfl)⟩⟩
set_option maxRecDepth 100000 in
theorem f_R_9 : zFld "ArtifactBags$Row" 9 7 0 (.array .byte) := ⟨"ArtifactBags$Row", zF_R, 2, zt_R, zc_R, by decide, rfl, Or.inl (zin 87 rfl rfl)⟩
set_option maxRecDepth 100000 in
theorem p_R_9 : zFldP "ArtifactBags$Row" "<init>" 9 7 0 (.array .byte) := ⟨"ArtifactBags$Row", zF_R, 2, zt_R, zc_R, by decide, rfl, Or.inr ⟨rfl, rfl, rfl, zin 87 rfl rfl⟩⟩
set_option maxRecDepth 100000 in
theorem f_R_15 : zFld "ArtifactBags$Row" 15 7 1 (.int) := ⟨"ArtifactBags$Row", zF_R, 2, zt_R, zc_R, by decide, rfl, Or.inl (zin 90 rfl rfl)⟩
set_option maxRecDepth 100000 in
theorem p_R_15 (nm : String) : zFldP "ArtifactBags$Row" nm 15 7 1 (.int) := ⟨"ArtifactBags$Row", zF_R, 2, zt_R, zc_R, by decide, rfl, Or.inl ⟨rfl, Or.inl (zin 90 rfl rfl)⟩⟩
set_option maxRecDepth 100000 in
theorem f_m_7 : zFld "ArtifactBagsModel" 7 0 0 (.array .byte) := ⟨"ArtifactBagsModel", zF_m, 17, zt_m, zc_m, by decide, rfl, Or.inl (zin 547 rfl rfl)⟩
set_option maxRecDepth 100000 in
theorem p_m_7 : zFldP "ArtifactBagsModel" "<init>" 7 0 0 (.array .byte) := ⟨"ArtifactBagsModel", zF_m, 17, zt_m, zc_m, by decide, rfl, Or.inr ⟨rfl, rfl, rfl, zin 547 rfl rfl⟩⟩
set_option maxRecDepth 100000 in
theorem f_m_13 : zFld "ArtifactBagsModel" 13 0 1 (.array .int) := ⟨"ArtifactBagsModel", zF_m, 17, zt_m, zc_m, by decide, rfl, Or.inl (zin 548 rfl rfl)⟩
set_option maxRecDepth 100000 in
theorem p_m_13 : zFldP "ArtifactBagsModel" "<init>" 13 0 1 (.array .int) := ⟨"ArtifactBagsModel", zF_m, 17, zt_m, zc_m, by decide, rfl, Or.inr ⟨rfl, rfl, rfl, zin 548 rfl rfl⟩⟩
set_option maxRecDepth 100000 in
theorem f_m_17 : zFld "ArtifactBagsModel" 17 0 2 (.array .int) := ⟨"ArtifactBagsModel", zF_m, 17, zt_m, zc_m, by decide, rfl, Or.inl (zin 549 rfl rfl)⟩
set_option maxRecDepth 100000 in
theorem p_m_17 : zFldP "ArtifactBagsModel" "<init>" 17 0 2 (.array .int) := ⟨"ArtifactBagsModel", zF_m, 17, zt_m, zc_m, by decide, rfl, Or.inr ⟨rfl, rfl, rfl, zin 549 rfl rfl⟩⟩
set_option maxRecDepth 100000 in
theorem f_m_20 : zFld "ArtifactBagsModel" 20 0 3 (.array .int) := ⟨"ArtifactBagsModel", zF_m, 17, zt_m, zc_m, by decide, rfl, Or.inl (zin 550 rfl rfl)⟩
set_option maxRecDepth 100000 in
theorem p_m_20 : zFldP "ArtifactBagsModel" "<init>" 20 0 3 (.array .int) := ⟨"ArtifactBagsModel", zF_m, 17, zt_m, zc_m, by decide, rfl, Or.inr ⟨rfl, rfl, rfl, zin 550 rfl rfl⟩⟩
set_option maxRecDepth 100000 in
theorem f_m_23 : zFld "ArtifactBagsModel" 23 0 4 (.array .int) := ⟨"ArtifactBagsModel", zF_m, 17, zt_m, zc_m, by decide, rfl, Or.inl (zin 551 rfl rfl)⟩
set_option maxRecDepth 100000 in
theorem p_m_23 : zFldP "ArtifactBagsModel" "<init>" 23 0 4 (.array .int) := ⟨"ArtifactBagsModel", zF_m, 17, zt_m, zc_m, by decide, rfl, Or.inr ⟨rfl, rfl, rfl, zin 551 rfl rfl⟩⟩
set_option maxRecDepth 100000 in
theorem f_m_26 : zFld "ArtifactBagsModel" 26 0 5 (.array .int) := ⟨"ArtifactBagsModel", zF_m, 17, zt_m, zc_m, by decide, rfl, Or.inl (zin 552 rfl rfl)⟩
set_option maxRecDepth 100000 in
theorem p_m_26 : zFldP "ArtifactBagsModel" "<init>" 26 0 5 (.array .int) := ⟨"ArtifactBagsModel", zF_m, 17, zt_m, zc_m, by decide, rfl, Or.inr ⟨rfl, rfl, rfl, zin 552 rfl rfl⟩⟩
set_option maxRecDepth 100000 in
theorem f_m_29 : zFld "ArtifactBagsModel" 29 0 6 (.array .int) := ⟨"ArtifactBagsModel", zF_m, 17, zt_m, zc_m, by decide, rfl, Or.inl (zin 553 rfl rfl)⟩
set_option maxRecDepth 100000 in
theorem p_m_29 : zFldP "ArtifactBagsModel" "<init>" 29 0 6 (.array .int) := ⟨"ArtifactBagsModel", zF_m, 17, zt_m, zc_m, by decide, rfl, Or.inr ⟨rfl, rfl, rfl, zin 553 rfl rfl⟩⟩
set_option maxRecDepth 100000 in
theorem f_m_32 : zFld "ArtifactBagsModel" 32 0 7 (.array .int) := ⟨"ArtifactBagsModel", zF_m, 17, zt_m, zc_m, by decide, rfl, Or.inl (zin 554 rfl rfl)⟩
set_option maxRecDepth 100000 in
theorem p_m_32 : zFldP "ArtifactBagsModel" "<init>" 32 0 7 (.array .int) := ⟨"ArtifactBagsModel", zF_m, 17, zt_m, zc_m, by decide, rfl, Or.inr ⟨rfl, rfl, rfl, zin 554 rfl rfl⟩⟩
set_option maxRecDepth 100000 in
theorem f_m_35 : zFld "ArtifactBagsModel" 35 0 8 (.array .int) := ⟨"ArtifactBagsModel", zF_m, 17, zt_m, zc_m, by decide, rfl, Or.inl (zin 555 rfl rfl)⟩
set_option maxRecDepth 100000 in
theorem p_m_35 : zFldP "ArtifactBagsModel" "<init>" 35 0 8 (.array .int) := ⟨"ArtifactBagsModel", zF_m, 17, zt_m, zc_m, by decide, rfl, Or.inr ⟨rfl, rfl, rfl, zin 555 rfl rfl⟩⟩
set_option maxRecDepth 100000 in
theorem f_m_47 : zFld "ArtifactBagsModel" 47 0 11 (.int) := ⟨"ArtifactBagsModel", zF_m, 17, zt_m, zc_m, by decide, rfl, Or.inl (zin 558 rfl rfl)⟩
set_option maxRecDepth 100000 in
theorem p_m_47 (nm : String) : zFldP "ArtifactBagsModel" nm 47 0 11 (.int) := ⟨"ArtifactBagsModel", zF_m, 17, zt_m, zc_m, by decide, rfl, Or.inl ⟨rfl, Or.inl (zin 558 rfl rfl)⟩⟩
set_option maxRecDepth 100000 in
theorem f_m_51 : zFld "ArtifactBagsModel" 51 0 10 (.int) := ⟨"ArtifactBagsModel", zF_m, 17, zt_m, zc_m, by decide, rfl, Or.inl (zin 557 rfl rfl)⟩
set_option maxRecDepth 100000 in
theorem p_m_51 (nm : String) : zFldP "ArtifactBagsModel" nm 51 0 10 (.int) := ⟨"ArtifactBagsModel", zF_m, 17, zt_m, zc_m, by decide, rfl, Or.inl ⟨rfl, Or.inl (zin 557 rfl rfl)⟩⟩
set_option maxRecDepth 100000 in
theorem f_m_58 : zFld "ArtifactBagsModel" 58 0 14 (.int) := ⟨"ArtifactBagsModel", zF_m, 17, zt_m, zc_m, by decide, rfl, Or.inl (zin 561 rfl rfl)⟩
set_option maxRecDepth 100000 in
theorem p_m_58 (nm : String) : zFldP "ArtifactBagsModel" nm 58 0 14 (.int) := ⟨"ArtifactBagsModel", zF_m, 17, zt_m, zc_m, by decide, rfl, Or.inl ⟨rfl, Or.inl (zin 561 rfl rfl)⟩⟩
set_option maxRecDepth 100000 in
theorem f_m_61 : zFld "ArtifactBagsModel" 61 0 15 (.int) := ⟨"ArtifactBagsModel", zF_m, 17, zt_m, zc_m, by decide, rfl, Or.inl (zin 562 rfl rfl)⟩
set_option maxRecDepth 100000 in
theorem p_m_61 (nm : String) : zFldP "ArtifactBagsModel" nm 61 0 15 (.int) := ⟨"ArtifactBagsModel", zF_m, 17, zt_m, zc_m, by decide, rfl, Or.inl ⟨rfl, Or.inl (zin 562 rfl rfl)⟩⟩
set_option maxRecDepth 100000 in
theorem f_m_74 : zFld "ArtifactBagsModel" 74 0 12 (.int) := ⟨"ArtifactBagsModel", zF_m, 17, zt_m, zc_m, by decide, rfl, Or.inl (zin 559 rfl rfl)⟩
set_option maxRecDepth 100000 in
theorem p_m_74 (nm : String) : zFldP "ArtifactBagsModel" nm 74 0 12 (.int) := ⟨"ArtifactBagsModel", zF_m, 17, zt_m, zc_m, by decide, rfl, Or.inl ⟨rfl, Or.inl (zin 559 rfl rfl)⟩⟩
set_option maxRecDepth 100000 in
theorem f_m_83 : zFld "ArtifactBagsModel" 83 0 16 (.int) := ⟨"ArtifactBagsModel", zF_m, 17, zt_m, zc_m, by decide, rfl, Or.inl (zin 563 rfl rfl)⟩
set_option maxRecDepth 100000 in
theorem p_m_83 (nm : String) : zFldP "ArtifactBagsModel" nm 83 0 16 (.int) := ⟨"ArtifactBagsModel", zF_m, 17, zt_m, zc_m, by decide, rfl, Or.inl ⟨rfl, Or.inl (zin 563 rfl rfl)⟩⟩
set_option maxRecDepth 100000 in
theorem f_m_86 : zFld "ArtifactBagsModel" 86 0 13 (.boolean) := ⟨"ArtifactBagsModel", zF_m, 17, zt_m, zc_m, by decide, rfl, Or.inl (zin 560 rfl rfl)⟩
set_option maxRecDepth 100000 in
theorem p_m_86 (nm : String) : zFldP "ArtifactBagsModel" nm 86 0 13 (.boolean) := ⟨"ArtifactBagsModel", zF_m, 17, zt_m, zc_m, by decide, rfl, Or.inl ⟨rfl, Or.inl (zin 560 rfl rfl)⟩⟩
set_option maxRecDepth 100000 in
theorem f_m_136 : zFld "ArtifactBagsModel" 136 0 9 (.int) := ⟨"ArtifactBagsModel", zF_m, 17, zt_m, zc_m, by decide, rfl, Or.inl (zin 556 rfl rfl)⟩
set_option maxRecDepth 100000 in
theorem p_m_136 (nm : String) : zFldP "ArtifactBagsModel" nm 136 0 9 (.int) := ⟨"ArtifactBagsModel", zF_m, 17, zt_m, zc_m, by decide, rfl, Or.inl ⟨rfl, Or.inl (zin 556 rfl rfl)⟩⟩
set_option maxRecDepth 100000 in
theorem mi_B_init : zMI M_B_init 0 := ⟨⟨zin 16 rfl rfl, zin 1 rfl rfl, by decide, by decide, (by decide +kernel)⟩, zin 15 rfl rfl, rfl, rfl⟩
set_option maxRecDepth 100000 in
theorem mi_G_init : zMI M_G_init 0 := ⟨⟨zin 24 rfl rfl, zin 2 rfl rfl, by decide, by decide, (by decide +kernel)⟩, zin 23 rfl rfl, rfl, rfl⟩
set_option maxRecDepth 100000 in
theorem mi_H_init : zMI M_H_init 0 := ⟨⟨zin 32 rfl rfl, zin 3 rfl rfl, by decide, by decide, (by decide +kernel)⟩, zin 31 rfl rfl, rfl, rfl⟩
set_option maxRecDepth 100000 in
theorem mi_N_init : zMI M_N_init 0 := ⟨⟨zin 47 rfl rfl, zin 4 rfl rfl, by decide, by decide, (by decide +kernel)⟩, zin 46 rfl rfl, rfl, rfl⟩
set_option maxRecDepth 100000 in
theorem mi_R_init : zMI M_R_init 0 := ⟨⟨zin 85 rfl rfl, zin 5 rfl rfl, by decide, by decide, (by decide +kernel)⟩, zin 84 rfl rfl, rfl, rfl⟩
set_option maxRecDepth 100000 in
theorem mv_B_card : zMV M_B_card 3 1 := ⟨⟨zin 115 rfl rfl, zin 1 rfl rfl, by decide, by decide, (by decide +kernel)⟩, zin 113 rfl rfl, zin 114 rfl rfl, ⟨_, rfl, rfl⟩⟩
set_option maxRecDepth 100000 in
theorem ms_B_isWritable : zMS M_B_isWritable 3 := ⟨⟨zin 118 rfl rfl, zin 1 rfl rfl, by decide, by decide, (by decide +kernel)⟩, zin 117 rfl rfl⟩
set_option maxRecDepth 100000 in
theorem ms_B_isDigit : zMS M_B_isDigit 1 := ⟨⟨zin 121 rfl rfl, zin 1 rfl rfl, by decide, by decide, (by decide +kernel)⟩, zin 120 rfl rfl⟩
set_option maxRecDepth 100000 in
theorem ms_B_isName : zMS M_B_isName 1 := ⟨⟨zin 124 rfl rfl, zin 1 rfl rfl, by decide, by decide, (by decide +kernel)⟩, zin 123 rfl rfl⟩
set_option maxRecDepth 100000 in
theorem mv_R_clear : zMV M_R_clear 0 7 := ⟨⟨zin 129 rfl rfl, zin 5 rfl rfl, by decide, by decide, (by decide +kernel)⟩, zin 127 rfl rfl, zin 128 rfl rfl, ⟨_, rfl, rfl⟩⟩
set_option maxRecDepth 100000 in
theorem mv_B_writeCard : zMV M_B_writeCard 3 1 := ⟨⟨zin 133 rfl rfl, zin 1 rfl rfl, by decide, by decide, (by decide +kernel)⟩, zin 132 rfl rfl, zinS 0 rfl rfl, ⟨_, rfl, rfl⟩⟩
set_option maxRecDepth 100000 in
theorem mv_R_addTimeCard : zMV M_R_addTimeCard 1 7 := ⟨⟨zin 137 rfl rfl, zin 5 rfl rfl, by decide, by decide, (by decide +kernel)⟩, zin 135 rfl rfl, zin 136 rfl rfl, ⟨_, rfl, rfl⟩⟩
set_option maxRecDepth 100000 in
theorem mv_R_add : zMV M_R_add 1 7 := ⟨⟨zin 141 rfl rfl, zin 5 rfl rfl, by decide, by decide, (by decide +kernel)⟩, zin 139 rfl rfl, zin 140 rfl rfl, ⟨_, rfl, rfl⟩⟩
set_option maxRecDepth 100000 in
theorem mv_R_addFileCard : zMV M_R_addFileCard 2 7 := ⟨⟨zin 145 rfl rfl, zin 5 rfl rfl, by decide, by decide, (by decide +kernel)⟩, zin 143 rfl rfl, zin 144 rfl rfl, ⟨_, rfl, rfl⟩⟩
set_option maxRecDepth 100000 in
theorem mv_R_addSpaceAndName : zMV M_R_addSpaceAndName 1 7 := ⟨⟨zin 149 rfl rfl, zin 5 rfl rfl, by decide, by decide, (by decide +kernel)⟩, zin 148 rfl rfl, zinS 1 rfl rfl, ⟨_, rfl, rfl⟩⟩
set_option maxRecDepth 100000 in
theorem mv_R_addNameCard : zMV M_R_addNameCard 2 7 := ⟨⟨zin 153 rfl rfl, zin 5 rfl rfl, by decide, by decide, (by decide +kernel)⟩, zin 151 rfl rfl, zin 152 rfl rfl, ⟨_, rfl, rfl⟩⟩
set_option maxRecDepth 100000 in
theorem mv_R_addParentCard : zMV M_R_addParentCard 2 7 := ⟨⟨zin 157 rfl rfl, zin 5 rfl rfl, by decide, by decide, (by decide +kernel)⟩, zin 155 rfl rfl, zin 156 rfl rfl, ⟨_, rfl, rfl⟩⟩
set_option maxRecDepth 100000 in
theorem mv_R_addTagCard : zMV M_R_addTagCard 2 7 := ⟨⟨zin 161 rfl rfl, zin 5 rfl rfl, by decide, by decide, (by decide +kernel)⟩, zin 159 rfl rfl, zin 160 rfl rfl, ⟨_, rfl, rfl⟩⟩
set_option maxRecDepth 100000 in
theorem mv_R_digest : zMV M_R_digest 0 7 := ⟨⟨zin 165 rfl rfl, zin 5 rfl rfl, by decide, by decide, (by decide +kernel)⟩, zin 163 rfl rfl, zin 164 rfl rfl, ⟨_, rfl, rfl⟩⟩
set_option maxRecDepth 100000 in
theorem ms_B_digestAfter : zMS M_B_digestAfter 3 := ⟨⟨zin 168 rfl rfl, zin 1 rfl rfl, by decide, by decide, (by decide +kernel)⟩, zin 167 rfl rfl⟩
set_option maxRecDepth 100000 in
theorem mv_R_hasRoomFor : zMV M_R_hasRoomFor 1 7 := ⟨⟨zin 174 rfl rfl, zin 5 rfl rfl, by decide, by decide, (by decide +kernel)⟩, zin 172 rfl rfl, zin 173 rfl rfl, ⟨_, rfl, rfl⟩⟩
set_option maxRecDepth 100000 in
theorem mv_R_addRow : zMV M_R_addRow 1 7 := ⟨⟨zin 178 rfl rfl, zin 5 rfl rfl, by decide, by decide, (by decide +kernel)⟩, zin 176 rfl rfl, zin 177 rfl rfl, ⟨_, rfl, rfl⟩⟩
set_option maxRecDepth 100000 in
theorem mv_B_raw : zMV M_B_raw 2 1 := ⟨⟨zin 182 rfl rfl, zin 1 rfl rfl, by decide, by decide, (by decide +kernel)⟩, zin 180 rfl rfl, zin 181 rfl rfl, ⟨_, rfl, rfl⟩⟩
set_option maxRecDepth 100000 in
theorem mv_B_drop : zMV M_B_drop 0 1 := ⟨⟨zin 187 rfl rfl, zin 1 rfl rfl, by decide, by decide, (by decide +kernel)⟩, zin 185 rfl rfl, zin 186 rfl rfl, ⟨_, rfl, rfl⟩⟩
set_option maxRecDepth 100000 in
theorem mv_B_files : zMV M_B_files 1 1 := ⟨⟨zin 191 rfl rfl, zin 1 rfl rfl, by decide, by decide, (by decide +kernel)⟩, zin 189 rfl rfl, zin 190 rfl rfl, ⟨_, rfl, rfl⟩⟩
set_option maxRecDepth 100000 in
theorem mv_B_bagOf : zMV M_B_bagOf 1 1 := ⟨⟨zin 195 rfl rfl, zin 1 rfl rfl, by decide, by decide, (by decide +kernel)⟩, zin 194 rfl rfl, zinS 2 rfl rfl, ⟨_, rfl, rfl⟩⟩
set_option maxRecDepth 100000 in
theorem ms_C_read : zMS M_C_read 3 := ⟨⟨zin 198 rfl rfl, zin 7 rfl rfl, by decide, by decide, (by decide +kernel)⟩, zin 197 rfl rfl⟩
set_option maxRecDepth 100000 in
theorem ms_C_readTime : zMS M_C_readTime 3 := ⟨⟨zin 201 rfl rfl, zin 7 rfl rfl, by decide, by decide, (by decide +kernel)⟩, zin 200 rfl rfl⟩
set_option maxRecDepth 100000 in
theorem mi_C_init : zMI M_C_init 5 := ⟨⟨zin 207 rfl rfl, zin 7 rfl rfl, by decide, by decide, (by decide +kernel)⟩, zin 206 rfl rfl, rfl, rfl⟩
set_option maxRecDepth 100000 in
theorem ms_C_readFile : zMS M_C_readFile 3 := ⟨⟨zin 235 rfl rfl, zin 7 rfl rfl, by decide, by decide, (by decide +kernel)⟩, zin 234 rfl rfl⟩
set_option maxRecDepth 100000 in
theorem ms_C_readName : zMS M_C_readName 2 := ⟨⟨zin 238 rfl rfl, zin 7 rfl rfl, by decide, by decide, (by decide +kernel)⟩, zin 237 rfl rfl⟩
set_option maxRecDepth 100000 in
theorem ms_C_readOneName : zMS M_C_readOneName 4 := ⟨⟨zin 241 rfl rfl, zin 7 rfl rfl, by decide, by decide, (by decide +kernel)⟩, zin 240 rfl rfl⟩
set_option maxRecDepth 100000 in
theorem ms_C_readTwoParents : zMS M_C_readTwoParents 3 := ⟨⟨zin 244 rfl rfl, zin 7 rfl rfl, by decide, by decide, (by decide +kernel)⟩, zin 243 rfl rfl⟩
set_option maxRecDepth 100000 in
theorem ms_C_readTag : zMS M_C_readTag 3 := ⟨⟨zin 247 rfl rfl, zin 7 rfl rfl, by decide, by decide, (by decide +kernel)⟩, zin 246 rfl rfl⟩
set_option maxRecDepth 100000 in
theorem mv_G_digestWithFile : zMV M_G_digestWithFile 2 3 := ⟨⟨zin 251 rfl rfl, zin 2 rfl rfl, by decide, by decide, (by decide +kernel)⟩, zin 249 rfl rfl, zin 250 rfl rfl, ⟨_, rfl, rfl⟩⟩
set_option maxRecDepth 100000 in
theorem mv_G_find : zMV M_G_find 1 3 := ⟨⟨zin 255 rfl rfl, zin 2 rfl rfl, by decide, by decide, (by decide +kernel)⟩, zin 253 rfl rfl, zin 254 rfl rfl, ⟨_, rfl, rfl⟩⟩
set_option maxRecDepth 100000 in
theorem mv_B_put : zMV M_B_put 1 1 := ⟨⟨zin 260 rfl rfl, zin 1 rfl rfl, by decide, by decide, (by decide +kernel)⟩, zin 258 rfl rfl, zin 259 rfl rfl, ⟨_, rfl, rfl⟩⟩
set_option maxRecDepth 100000 in
theorem mv_G_holds : zMV M_G_holds 1 3 := ⟨⟨zin 264 rfl rfl, zin 2 rfl rfl, by decide, by decide, (by decide +kernel)⟩, zin 262 rfl rfl, zin 263 rfl rfl, ⟨_, rfl, rfl⟩⟩
set_option maxRecDepth 100000 in
theorem mv_G_isFull : zMV M_G_isFull 0 3 := ⟨⟨zin 268 rfl rfl, zin 2 rfl rfl, by decide, by decide, (by decide +kernel)⟩, zin 266 rfl rfl, zin 267 rfl rfl, ⟨_, rfl, rfl⟩⟩
set_option maxRecDepth 100000 in
theorem ms_A_of : zMS M_A_of 1 := ⟨⟨zin 271 rfl rfl, zin 8 rfl rfl, by decide, by decide, (by decide +kernel)⟩, zin 270 rfl rfl⟩
set_option maxRecDepth 100000 in
theorem ms_J_copyOf_b : zMS M_J_copyOf_b 2 := ⟨⟨zin 274 rfl rfl, zin 9 rfl rfl, by decide, by decide, (by decide +kernel)⟩, zin 273 rfl rfl⟩
set_option maxRecDepth 100000 in
theorem ms_K_min : zMS M_K_min 2 := ⟨⟨zin 284 rfl rfl, zin 10 rfl rfl, by decide, by decide, (by decide +kernel)⟩, zin 283 rfl rfl⟩
set_option maxRecDepth 100000 in
theorem ms_A_readLines : zMS M_A_readLines 1 := ⟨⟨zin 290 rfl rfl, zin 8 rfl rfl, by decide, by decide, (by decide +kernel)⟩, zin 289 rfl rfl⟩
set_option maxRecDepth 100000 in
theorem ms_A_countLines : zMS M_A_countLines 1 := ⟨⟨zin 295 rfl rfl, zin 8 rfl rfl, by decide, by decide, (by decide +kernel)⟩, zin 294 rfl rfl⟩
set_option maxRecDepth 100000 in
theorem ms_A_isWellFormed : zMS M_A_isWellFormed 2 := ⟨⟨zin 299 rfl rfl, zin 8 rfl rfl, by decide, by decide, (by decide +kernel)⟩, zin 298 rfl rfl⟩
set_option maxRecDepth 100000 in
theorem mv_C_mayFollow : zMV M_C_mayFollow 1 4 := ⟨⟨zin 303 rfl rfl, zin 7 rfl rfl, by decide, by decide, (by decide +kernel)⟩, zin 301 rfl rfl, zin 302 rfl rfl, ⟨_, rfl, rfl⟩⟩
set_option maxRecDepth 100000 in
theorem ms_A_sortOf : zMS M_A_sortOf 1 := ⟨⟨zin 307 rfl rfl, zin 8 rfl rfl, by decide, by decide, (by decide +kernel)⟩, zin 306 rfl rfl⟩
set_option maxRecDepth 100000 in
theorem ms_A_countOf : zMS M_A_countOf 2 := ⟨⟨zin 310 rfl rfl, zin 8 rfl rfl, by decide, by decide, (by decide +kernel)⟩, zin 309 rfl rfl⟩
set_option maxRecDepth 100000 in
theorem ms_A_countStarred : zMS M_A_countStarred 1 := ⟨⟨zin 313 rfl rfl, zin 8 rfl rfl, by decide, by decide, (by decide +kernel)⟩, zin 312 rfl rfl⟩
set_option maxRecDepth 100000 in
theorem mi_A_init : zMI M_A_init 3 := ⟨⟨zin 318 rfl rfl, zin 8 rfl rfl, by decide, by decide, (by decide +kernel)⟩, zin 317 rfl rfl, rfl, rfl⟩
set_option maxRecDepth 100000 in
theorem ms_A_numberOf : zMS M_A_numberOf 2 := ⟨⟨zin 322 rfl rfl, zin 8 rfl rfl, by decide, by decide, (by decide +kernel)⟩, zin 321 rfl rfl⟩
set_option maxRecDepth 100000 in
theorem mv_G_take : zMV M_G_take 1 3 := ⟨⟨zin 355 rfl rfl, zin 2 rfl rfl, by decide, by decide, (by decide +kernel)⟩, zin 353 rfl rfl, zin 354 rfl rfl, ⟨_, rfl, rfl⟩⟩
set_option maxRecDepth 100000 in
theorem mv_G_insert : zMV M_G_insert 1 3 := ⟨⟨zin 361 rfl rfl, zin 2 rfl rfl, by decide, by decide, (by decide +kernel)⟩, zin 360 rfl rfl, zinS 3 rfl rfl, ⟨_, rfl, rfl⟩⟩
set_option maxRecDepth 100000 in
theorem mv_N_remove : zMV M_N_remove 1 6 := ⟨⟨zin 365 rfl rfl, zin 4 rfl rfl, by decide, by decide, (by decide +kernel)⟩, zin 363 rfl rfl, zin 364 rfl rfl, ⟨_, rfl, rfl⟩⟩
set_option maxRecDepth 100000 in
theorem mv_N_placeOf : zMV M_N_placeOf 1 6 := ⟨⟨zin 369 rfl rfl, zin 4 rfl rfl, by decide, by decide, (by decide +kernel)⟩, zin 368 rfl rfl, zinS 4 rfl rfl, ⟨_, rfl, rfl⟩⟩
set_option maxRecDepth 100000 in
theorem mv_G_noteNamesOf : zMV M_G_noteNamesOf 1 3 := ⟨⟨zin 374 rfl rfl, zin 2 rfl rfl, by decide, by decide, (by decide +kernel)⟩, zin 373 rfl rfl, zinS 5 rfl rfl, ⟨_, rfl, rfl⟩⟩
set_option maxRecDepth 100000 in
theorem mv_C_namesWhatIsNeeded : zMV M_C_namesWhatIsNeeded 0 4 := ⟨⟨zin 378 rfl rfl, zin 7 rfl rfl, by decide, by decide, (by decide +kernel)⟩, zin 376 rfl rfl, zin 377 rfl rfl, ⟨_, rfl, rfl⟩⟩
set_option maxRecDepth 100000 in
theorem mv_G_want : zMV M_G_want 1 3 := ⟨⟨zin 382 rfl rfl, zin 2 rfl rfl, by decide, by decide, (by decide +kernel)⟩, zin 381 rfl rfl, zinS 6 rfl rfl, ⟨_, rfl, rfl⟩⟩
set_option maxRecDepth 100000 in
theorem mv_N_add : zMV M_N_add 1 6 := ⟨⟨zin 386 rfl rfl, zin 4 rfl rfl, by decide, by decide, (by decide +kernel)⟩, zin 384 rfl rfl, zin 385 rfl rfl, ⟨_, rfl, rfl⟩⟩
set_option maxRecDepth 100000 in
theorem ms_J_copyOf_i : zMS M_J_copyOf_i 2 := ⟨⟨zin 389 rfl rfl, zin 9 rfl rfl, by decide, by decide, (by decide +kernel)⟩, zin 388 rfl rfl⟩
set_option maxRecDepth 100000 in
theorem mv_A_namesFile : zMV M_A_namesFile 1 2 := ⟨⟨zin 398 rfl rfl, zin 8 rfl rfl, by decide, by decide, (by decide +kernel)⟩, zin 396 rfl rfl, zin 397 rfl rfl, ⟨_, rfl, rfl⟩⟩
set_option maxRecDepth 100000 in
theorem mv_G_noteIfCheckIn : zMV M_G_noteIfCheckIn 1 3 := ⟨⟨zin 402 rfl rfl, zin 2 rfl rfl, by decide, by decide, (by decide +kernel)⟩, zin 401 rfl rfl, zinS 7 rfl rfl, ⟨_, rfl, rfl⟩⟩
set_option maxRecDepth 100000 in
theorem mv_H_add : zMV M_H_add 1 5 := ⟨⟨zin 407 rfl rfl, zin 3 rfl rfl, by decide, by decide, (by decide +kernel)⟩, zin 405 rfl rfl, zin 406 rfl rfl, ⟨_, rfl, rfl⟩⟩
set_option maxRecDepth 100000 in
theorem mv_A_isEarlierThan : zMV M_A_isEarlierThan 1 2 := ⟨⟨zin 411 rfl rfl, zin 8 rfl rfl, by decide, by decide, (by decide +kernel)⟩, zin 409 rfl rfl, zin 410 rfl rfl, ⟨_, rfl, rfl⟩⟩
set_option maxRecDepth 100000 in
theorem mv_B_round : zMV M_B_round 1 1 := ⟨⟨zin 415 rfl rfl, zin 1 rfl rfl, by decide, by decide, (by decide +kernel)⟩, zin 413 rfl rfl, zin 414 rfl rfl, ⟨_, rfl, rfl⟩⟩
set_option maxRecDepth 100000 in
theorem mv_G_gatherCluster : zMV M_G_gatherCluster 1 3 := ⟨⟨zin 419 rfl rfl, zin 2 rfl rfl, by decide, by decide, (by decide +kernel)⟩, zin 417 rfl rfl, zin 418 rfl rfl, ⟨_, rfl, rfl⟩⟩
set_option maxRecDepth 100000 in
theorem mv_G_countLoose : zMV M_G_countLoose 0 3 := ⟨⟨zin 423 rfl rfl, zin 2 rfl rfl, by decide, by decide, (by decide +kernel)⟩, zin 421 rfl rfl, zin 422 rfl rfl, ⟨_, rfl, rfl⟩⟩
set_option maxRecDepth 100000 in
theorem mv_G_isLoose : zMV M_G_isLoose 1 3 := ⟨⟨zin 427 rfl rfl, zin 2 rfl rfl, by decide, by decide, (by decide +kernel)⟩, zin 426 rfl rfl, zinS 8 rfl rfl, ⟨_, rfl, rfl⟩⟩
set_option maxRecDepth 100000 in
theorem mv_N_contains : zMV M_N_contains 1 6 := ⟨⟨zin 431 rfl rfl, zin 4 rfl rfl, by decide, by decide, (by decide +kernel)⟩, zin 429 rfl rfl, zin 430 rfl rfl, ⟨_, rfl, rfl⟩⟩
set_option maxRecDepth 100000 in
theorem mv_G_sendTo : zMV M_G_sendTo 2 3 := ⟨⟨zin 440 rfl rfl, zin 2 rfl rfl, by decide, by decide, (by decide +kernel)⟩, zin 438 rfl rfl, zin 439 rfl rfl, ⟨_, rfl, rfl⟩⟩
set_option maxRecDepth 100000 in
theorem mv_N_copyFrom : zMV M_N_copyFrom 1 6 := ⟨⟨zin 444 rfl rfl, zin 4 rfl rfl, by decide, by decide, (by decide +kernel)⟩, zin 442 rfl rfl, zin 443 rfl rfl, ⟨_, rfl, rfl⟩⟩
set_option maxRecDepth 100000 in
theorem mv_B_held : zMV M_B_held 1 1 := ⟨⟨zin 448 rfl rfl, zin 1 rfl rfl, by decide, by decide, (by decide +kernel)⟩, zin 446 rfl rfl, zin 447 rfl rfl, ⟨_, rfl, rfl⟩⟩
set_option maxRecDepth 100000 in
theorem mv_B_name : zMV M_B_name 2 1 := ⟨⟨zin 452 rfl rfl, zin 1 rfl rfl, by decide, by decide, (by decide +kernel)⟩, zin 450 rfl rfl, zin 451 rfl rfl, ⟨_, rfl, rfl⟩⟩
set_option maxRecDepth 100000 in
theorem mv_B_octet : zMV M_B_octet 3 1 := ⟨⟨zin 456 rfl rfl, zin 1 rfl rfl, by decide, by decide, (by decide +kernel)⟩, zin 454 rfl rfl, zin 455 rfl rfl, ⟨_, rfl, rfl⟩⟩
set_option maxRecDepth 100000 in
theorem mv_B_artifactOf : zMV M_B_artifactOf 2 1 := ⟨⟨zin 460 rfl rfl, zin 1 rfl rfl, by decide, by decide, (by decide +kernel)⟩, zin 459 rfl rfl, zinS 9 rfl rfl, ⟨_, rfl, rfl⟩⟩
set_option maxRecDepth 100000 in
theorem mv_B_kind : zMV M_B_kind 2 1 := ⟨⟨zin 465 rfl rfl, zin 1 rfl rfl, by decide, by decide, (by decide +kernel)⟩, zin 463 rfl rfl, zin 464 rfl rfl, ⟨_, rfl, rfl⟩⟩
set_option maxRecDepth 100000 in
theorem mv_B_wanted : zMV M_B_wanted 1 1 := ⟨⟨zin 469 rfl rfl, zin 1 rfl rfl, by decide, by decide, (by decide +kernel)⟩, zin 467 rfl rfl, zin 468 rfl rfl, ⟨_, rfl, rfl⟩⟩
set_option maxRecDepth 100000 in
theorem mv_B_wants : zMV M_B_wants 2 1 := ⟨⟨zin 473 rfl rfl, zin 1 rfl rfl, by decide, by decide, (by decide +kernel)⟩, zin 471 rfl rfl, zin 472 rfl rfl, ⟨_, rfl, rfl⟩⟩
set_option maxRecDepth 100000 in
theorem mv_B_checkIns : zMV M_B_checkIns 1 1 := ⟨⟨zin 478 rfl rfl, zin 1 rfl rfl, by decide, by decide, (by decide +kernel)⟩, zin 476 rfl rfl, zin 477 rfl rfl, ⟨_, rfl, rfl⟩⟩
set_option maxRecDepth 100000 in
theorem mv_B_timeline : zMV M_B_timeline 2 1 := ⟨⟨zin 482 rfl rfl, zin 1 rfl rfl, by decide, by decide, (by decide +kernel)⟩, zin 480 rfl rfl, zin 481 rfl rfl, ⟨_, rfl, rfl⟩⟩
set_option maxRecDepth 100000 in
theorem mv_H_nameAt : zMV M_H_nameAt 1 5 := ⟨⟨zin 486 rfl rfl, zin 3 rfl rfl, by decide, by decide, (by decide +kernel)⟩, zin 484 rfl rfl, zin 485 rfl rfl, ⟨_, rfl, rfl⟩⟩
set_option maxRecDepth 100000 in
theorem mv_B_children : zMV M_B_children 2 1 := ⟨⟨zin 490 rfl rfl, zin 1 rfl rfl, by decide, by decide, (by decide +kernel)⟩, zin 488 rfl rfl, zin 489 rfl rfl, ⟨_, rfl, rfl⟩⟩
set_option maxRecDepth 100000 in
theorem mv_H_countChildren : zMV M_H_countChildren 1 5 := ⟨⟨zin 494 rfl rfl, zin 3 rfl rfl, by decide, by decide, (by decide +kernel)⟩, zin 492 rfl rfl, zin 493 rfl rfl, ⟨_, rfl, rfl⟩⟩
set_option maxRecDepth 100000 in
theorem mv_A_namesParent : zMV M_A_namesParent 1 2 := ⟨⟨zin 498 rfl rfl, zin 8 rfl rfl, by decide, by decide, (by decide +kernel)⟩, zin 496 rfl rfl, zin 497 rfl rfl, ⟨_, rfl, rfl⟩⟩
set_option maxRecDepth 100000 in
theorem mv_B_leaves : zMV M_B_leaves 1 1 := ⟨⟨zin 502 rfl rfl, zin 1 rfl rfl, by decide, by decide, (by decide +kernel)⟩, zin 500 rfl rfl, zin 501 rfl rfl, ⟨_, rfl, rfl⟩⟩
set_option maxRecDepth 100000 in
theorem mv_H_countLeaves : zMV M_H_countLeaves 0 5 := ⟨⟨zin 506 rfl rfl, zin 3 rfl rfl, by decide, by decide, (by decide +kernel)⟩, zin 504 rfl rfl, zin 505 rfl rfl, ⟨_, rfl, rfl⟩⟩
set_option maxRecDepth 100000 in
theorem mv_B_tag : zMV M_B_tag 3 1 := ⟨⟨zin 511 rfl rfl, zin 1 rfl rfl, by decide, by decide, (by decide +kernel)⟩, zin 509 rfl rfl, zin 510 rfl rfl, ⟨_, rfl, rfl⟩⟩
set_option maxRecDepth 100000 in
theorem mv_G_tagOf : zMV M_G_tagOf 2 3 := ⟨⟨zin 515 rfl rfl, zin 2 rfl rfl, by decide, by decide, (by decide +kernel)⟩, zin 513 rfl rfl, zin 514 rfl rfl, ⟨_, rfl, rfl⟩⟩
set_option maxRecDepth 100000 in
theorem mv_A_tagCardFor : zMV M_A_tagCardFor 2 2 := ⟨⟨zin 519 rfl rfl, zin 8 rfl rfl, by decide, by decide, (by decide +kernel)⟩, zin 517 rfl rfl, zin 518 rfl rfl, ⟨_, rfl, rfl⟩⟩
set_option maxRecDepth 100000 in
theorem mv_B_loose : zMV M_B_loose 1 1 := ⟨⟨zin 523 rfl rfl, zin 1 rfl rfl, by decide, by decide, (by decide +kernel)⟩, zin 521 rfl rfl, zin 522 rfl rfl, ⟨_, rfl, rfl⟩⟩
set_option maxRecDepth 100000 in
theorem mv_B_rebuild : zMV M_B_rebuild 1 1 := ⟨⟨zin 528 rfl rfl, zin 1 rfl rfl, by decide, by decide, (by decide +kernel)⟩, zin 526 rfl rfl, zin 527 rfl rfl, ⟨_, rfl, rfl⟩⟩
set_option maxRecDepth 100000 in
theorem mv_G_deriveAnew : zMV M_G_deriveAnew 0 3 := ⟨⟨zin 532 rfl rfl, zin 2 rfl rfl, by decide, by decide, (by decide +kernel)⟩, zin 530 rfl rfl, zin 531 rfl rfl, ⟨_, rfl, rfl⟩⟩
set_option maxRecDepth 100000 in
theorem mv_H_clear : zMV M_H_clear 0 5 := ⟨⟨zin 536 rfl rfl, zin 3 rfl rfl, by decide, by decide, (by decide +kernel)⟩, zin 534 rfl rfl, zin 535 rfl rfl, ⟨_, rfl, rfl⟩⟩
set_option maxRecDepth 100000 in
theorem mv_N_clear : zMV M_N_clear 0 6 := ⟨⟨zin 540 rfl rfl, zin 4 rfl rfl, by decide, by decide, (by decide +kernel)⟩, zin 538 rfl rfl, zin 539 rfl rfl, ⟨_, rfl, rfl⟩⟩
set_option maxRecDepth 100000 in
theorem mi_m_init : zMI M_m_init 0 := ⟨⟨zin 545 rfl rfl, zin 6 rfl rfl, by decide, by decide, (by decide +kernel)⟩, zin 544 rfl rfl, rfl, rfl⟩
set_option maxRecDepth 100000 in
theorem mv_m_card : zMV M_m_card 3 0 := ⟨⟨zin 602 rfl rfl, zin 6 rfl rfl, by decide, by decide, (by decide +kernel)⟩, zin 600 rfl rfl, zin 601 rfl rfl, ⟨_, rfl, rfl⟩⟩
set_option maxRecDepth 100000 in
theorem ms_m_size : zMS M_m_size 3 := ⟨⟨zin 605 rfl rfl, zin 6 rfl rfl, by decide, by decide, (by decide +kernel)⟩, zin 604 rfl rfl⟩
set_option maxRecDepth 100000 in
theorem ms_m_isName : zMS M_m_isName 1 := ⟨⟨zin 608 rfl rfl, zin 6 rfl rfl, by decide, by decide, (by decide +kernel)⟩, zin 607 rfl rfl⟩
set_option maxRecDepth 100000 in
theorem mv_m_digest : zMV M_m_digest 3 0 := ⟨⟨zin 613 rfl rfl, zin 6 rfl rfl, by decide, by decide, (by decide +kernel)⟩, zin 612 rfl rfl, zinS 10 rfl rfl, ⟨_, rfl, rfl⟩⟩
set_option maxRecDepth 100000 in
theorem mv_m_at : zMV M_m_at 2 0 := ⟨⟨zin 618 rfl rfl, zin 6 rfl rfl, by decide, by decide, (by decide +kernel)⟩, zin 617 rfl rfl, zinS 11 rfl rfl, ⟨_, rfl, rfl⟩⟩
set_option maxRecDepth 100000 in
theorem ms_m_letterOf : zMS M_m_letterOf 1 := ⟨⟨zin 622 rfl rfl, zin 6 rfl rfl, by decide, by decide, (by decide +kernel)⟩, zin 621 rfl rfl⟩
set_option maxRecDepth 100000 in
theorem mv_m_write : zMV M_m_write 2 0 := ⟨⟨zin 626 rfl rfl, zin 6 rfl rfl, by decide, by decide, (by decide +kernel)⟩, zin 625 rfl rfl, zinS 12 rfl rfl, ⟨_, rfl, rfl⟩⟩
set_option maxRecDepth 100000 in
theorem mv_m_writeName : zMV M_m_writeName 2 0 := ⟨⟨zin 630 rfl rfl, zin 6 rfl rfl, by decide, by decide, (by decide +kernel)⟩, zin 629 rfl rfl, zinS 13 rfl rfl, ⟨_, rfl, rfl⟩⟩
set_option maxRecDepth 100000 in
theorem mv_m_raw : zMV M_m_raw 2 0 := ⟨⟨zin 634 rfl rfl, zin 6 rfl rfl, by decide, by decide, (by decide +kernel)⟩, zin 632 rfl rfl, zin 633 rfl rfl, ⟨_, rfl, rfl⟩⟩
set_option maxRecDepth 100000 in
theorem mv_m_drop : zMV M_m_drop 0 0 := ⟨⟨zin 639 rfl rfl, zin 6 rfl rfl, by decide, by decide, (by decide +kernel)⟩, zin 637 rfl rfl, zin 638 rfl rfl, ⟨_, rfl, rfl⟩⟩
set_option maxRecDepth 100000 in
theorem mv_m_files : zMV M_m_files 1 0 := ⟨⟨zin 643 rfl rfl, zin 6 rfl rfl, by decide, by decide, (by decide +kernel)⟩, zin 641 rfl rfl, zin 642 rfl rfl, ⟨_, rfl, rfl⟩⟩
set_option maxRecDepth 100000 in
theorem ms_m_isRepository : zMS M_m_isRepository 1 := ⟨⟨zin 646 rfl rfl, zin 6 rfl rfl, by decide, by decide, (by decide +kernel)⟩, zin 645 rfl rfl⟩
set_option maxRecDepth 100000 in
theorem mv_m_filesOf : zMV M_m_filesOf 2 0 := ⟨⟨zin 650 rfl rfl, zin 6 rfl rfl, by decide, by decide, (by decide +kernel)⟩, zin 649 rfl rfl, zinS 14 rfl rfl, ⟨_, rfl, rfl⟩⟩
set_option maxRecDepth 100000 in
theorem mv_m_readLine : zMV M_m_readLine 2 0 := ⟨⟨zin 654 rfl rfl, zin 6 rfl rfl, by decide, by decide, (by decide +kernel)⟩, zin 653 rfl rfl, zinS 15 rfl rfl, ⟨_, rfl, rfl⟩⟩
set_option maxRecDepth 100000 in
theorem mv_m_isCard : zMV M_m_isCard 3 0 := ⟨⟨zin 658 rfl rfl, zin 6 rfl rfl, by decide, by decide, (by decide +kernel)⟩, zin 657 rfl rfl, zinS 16 rfl rfl, ⟨_, rfl, rfl⟩⟩
set_option maxRecDepth 100000 in
theorem mv_m_isNumber : zMV M_m_isNumber 3 0 := ⟨⟨zin 662 rfl rfl, zin 6 rfl rfl, by decide, by decide, (by decide +kernel)⟩, zin 661 rfl rfl, zinS 17 rfl rfl, ⟨_, rfl, rfl⟩⟩
set_option maxRecDepth 100000 in
theorem ms_m_isDigit : zMS M_m_isDigit 1 := ⟨⟨zin 665 rfl rfl, zin 6 rfl rfl, by decide, by decide, (by decide +kernel)⟩, zin 664 rfl rfl⟩
set_option maxRecDepth 100000 in
theorem mv_m_nameAt : zMV M_m_nameAt 2 0 := ⟨⟨zin 669 rfl rfl, zin 6 rfl rfl, by decide, by decide, (by decide +kernel)⟩, zin 668 rfl rfl, zinS 18 rfl rfl, ⟨_, rfl, rfl⟩⟩
set_option maxRecDepth 100000 in
theorem mv_m_isParent : zMV M_m_isParent 3 0 := ⟨⟨zin 673 rfl rfl, zin 6 rfl rfl, by decide, by decide, (by decide +kernel)⟩, zin 672 rfl rfl, zinS 19 rfl rfl, ⟨_, rfl, rfl⟩⟩
set_option maxRecDepth 100000 in
theorem mv_m_isTag : zMV M_m_isTag 3 0 := ⟨⟨zin 677 rfl rfl, zin 6 rfl rfl, by decide, by decide, (by decide +kernel)⟩, zin 676 rfl rfl, zinS 20 rfl rfl, ⟨_, rfl, rfl⟩⟩
set_option maxRecDepth 100000 in
theorem mv_m_find : zMV M_m_find 2 0 := ⟨⟨zin 681 rfl rfl, zin 6 rfl rfl, by decide, by decide, (by decide +kernel)⟩, zin 680 rfl rfl, zinS 21 rfl rfl, ⟨_, rfl, rfl⟩⟩
set_option maxRecDepth 100000 in
theorem mv_m_put : zMV M_m_put 1 0 := ⟨⟨zin 685 rfl rfl, zin 6 rfl rfl, by decide, by decide, (by decide +kernel)⟩, zin 683 rfl rfl, zin 684 rfl rfl, ⟨_, rfl, rfl⟩⟩
set_option maxRecDepth 100000 in
theorem mv_m_hold : zMV M_m_hold 3 0 := ⟨⟨zin 689 rfl rfl, zin 6 rfl rfl, by decide, by decide, (by decide +kernel)⟩, zin 688 rfl rfl, zinS 22 rfl rfl, ⟨_, rfl, rfl⟩⟩
set_option maxRecDepth 100000 in
theorem mv_m_round : zMV M_m_round 1 0 := ⟨⟨zin 693 rfl rfl, zin 6 rfl rfl, by decide, by decide, (by decide +kernel)⟩, zin 691 rfl rfl, zin 692 rfl rfl, ⟨_, rfl, rfl⟩⟩
set_option maxRecDepth 100000 in
theorem mv_m_makeCluster : zMV M_m_makeCluster 1 0 := ⟨⟨zin 697 rfl rfl, zin 6 rfl rfl, by decide, by decide, (by decide +kernel)⟩, zin 696 rfl rfl, zinS 23 rfl rfl, ⟨_, rfl, rfl⟩⟩
set_option maxRecDepth 100000 in
theorem mv_m_listLoose : zMV M_m_listLoose 1 0 := ⟨⟨zin 701 rfl rfl, zin 6 rfl rfl, by decide, by decide, (by decide +kernel)⟩, zin 700 rfl rfl, zinS 24 rfl rfl, ⟨_, rfl, rfl⟩⟩
set_option maxRecDepth 100000 in
theorem mv_m_clustered : zMV M_m_clustered 2 0 := ⟨⟨zin 705 rfl rfl, zin 6 rfl rfl, by decide, by decide, (by decide +kernel)⟩, zin 704 rfl rfl, zinS 25 rfl rfl, ⟨_, rfl, rfl⟩⟩
set_option maxRecDepth 100000 in
theorem mv_m_sort : zMV M_m_sort 1 0 := ⟨⟨zin 709 rfl rfl, zin 6 rfl rfl, by decide, by decide, (by decide +kernel)⟩, zin 708 rfl rfl, zinS 26 rfl rfl, ⟨_, rfl, rfl⟩⟩
set_option maxRecDepth 100000 in
theorem mv_m_has : zMV M_m_has 3 0 := ⟨⟨zin 713 rfl rfl, zin 6 rfl rfl, by decide, by decide, (by decide +kernel)⟩, zin 712 rfl rfl, zinS 27 rfl rfl, ⟨_, rfl, rfl⟩⟩
set_option maxRecDepth 100000 in
theorem mv_m_enlist : zMV M_m_enlist 1 0 := ⟨⟨zin 717 rfl rfl, zin 6 rfl rfl, by decide, by decide, (by decide +kernel)⟩, zin 716 rfl rfl, zinS 28 rfl rfl, ⟨_, rfl, rfl⟩⟩
set_option maxRecDepth 100000 in
theorem mv_m_message : zMV M_m_message 2 0 := ⟨⟨zin 721 rfl rfl, zin 6 rfl rfl, by decide, by decide, (by decide +kernel)⟩, zin 720 rfl rfl, zinS 29 rfl rfl, ⟨_, rfl, rfl⟩⟩
set_option maxRecDepth 100000 in
theorem mv_m_tell : zMV M_m_tell 2 0 := ⟨⟨zin 725 rfl rfl, zin 6 rfl rfl, by decide, by decide, (by decide +kernel)⟩, zin 724 rfl rfl, zinS 30 rfl rfl, ⟨_, rfl, rfl⟩⟩
set_option maxRecDepth 100000 in
theorem mv_m_listWanted : zMV M_m_listWanted 1 0 := ⟨⟨zin 729 rfl rfl, zin 6 rfl rfl, by decide, by decide, (by decide +kernel)⟩, zin 728 rfl rfl, zinS 31 rfl rfl, ⟨_, rfl, rfl⟩⟩
set_option maxRecDepth 100000 in
theorem mv_m_lack : zMV M_m_lack 2 0 := ⟨⟨zin 733 rfl rfl, zin 6 rfl rfl, by decide, by decide, (by decide +kernel)⟩, zin 732 rfl rfl, zinS 32 rfl rfl, ⟨_, rfl, rfl⟩⟩
set_option maxRecDepth 100000 in
theorem mv_m_held : zMV M_m_held 1 0 := ⟨⟨zin 737 rfl rfl, zin 6 rfl rfl, by decide, by decide, (by decide +kernel)⟩, zin 735 rfl rfl, zin 736 rfl rfl, ⟨_, rfl, rfl⟩⟩
set_option maxRecDepth 100000 in
theorem mv_m_name : zMV M_m_name 2 0 := ⟨⟨zin 741 rfl rfl, zin 6 rfl rfl, by decide, by decide, (by decide +kernel)⟩, zin 739 rfl rfl, zin 740 rfl rfl, ⟨_, rfl, rfl⟩⟩
set_option maxRecDepth 100000 in
theorem mv_m_octet : zMV M_m_octet 3 0 := ⟨⟨zin 745 rfl rfl, zin 6 rfl rfl, by decide, by decide, (by decide +kernel)⟩, zin 743 rfl rfl, zin 744 rfl rfl, ⟨_, rfl, rfl⟩⟩
set_option maxRecDepth 100000 in
theorem mv_m_kind : zMV M_m_kind 2 0 := ⟨⟨zin 749 rfl rfl, zin 6 rfl rfl, by decide, by decide, (by decide +kernel)⟩, zin 747 rfl rfl, zin 748 rfl rfl, ⟨_, rfl, rfl⟩⟩
set_option maxRecDepth 100000 in
theorem mv_m_wanted : zMV M_m_wanted 1 0 := ⟨⟨zin 753 rfl rfl, zin 6 rfl rfl, by decide, by decide, (by decide +kernel)⟩, zin 751 rfl rfl, zin 752 rfl rfl, ⟨_, rfl, rfl⟩⟩
set_option maxRecDepth 100000 in
theorem mv_m_wants : zMV M_m_wants 2 0 := ⟨⟨zin 757 rfl rfl, zin 6 rfl rfl, by decide, by decide, (by decide +kernel)⟩, zin 755 rfl rfl, zin 756 rfl rfl, ⟨_, rfl, rfl⟩⟩
set_option maxRecDepth 100000 in
theorem mv_m_checkIns : zMV M_m_checkIns 1 0 := ⟨⟨zin 761 rfl rfl, zin 6 rfl rfl, by decide, by decide, (by decide +kernel)⟩, zin 759 rfl rfl, zin 760 rfl rfl, ⟨_, rfl, rfl⟩⟩
set_option maxRecDepth 100000 in
theorem mv_m_isCheckIn : zMV M_m_isCheckIn 2 0 := ⟨⟨zin 765 rfl rfl, zin 6 rfl rfl, by decide, by decide, (by decide +kernel)⟩, zin 764 rfl rfl, zinS 33 rfl rfl, ⟨_, rfl, rfl⟩⟩
set_option maxRecDepth 100000 in
theorem mv_m_timeline : zMV M_m_timeline 2 0 := ⟨⟨zin 769 rfl rfl, zin 6 rfl rfl, by decide, by decide, (by decide +kernel)⟩, zin 767 rfl rfl, zin 768 rfl rfl, ⟨_, rfl, rfl⟩⟩
set_option maxRecDepth 100000 in
theorem mv_m_timeOf : zMV M_m_timeOf 1 0 := ⟨⟨zin 773 rfl rfl, zin 6 rfl rfl, by decide, by decide, (by decide +kernel)⟩, zin 772 rfl rfl, zinS 34 rfl rfl, ⟨_, rfl, rfl⟩⟩
set_option maxRecDepth 100000 in
theorem mv_m_children : zMV M_m_children 2 0 := ⟨⟨zin 777 rfl rfl, zin 6 rfl rfl, by decide, by decide, (by decide +kernel)⟩, zin 775 rfl rfl, zin 776 rfl rfl, ⟨_, rfl, rfl⟩⟩
set_option maxRecDepth 100000 in
theorem mv_m_leaves : zMV M_m_leaves 1 0 := ⟨⟨zin 781 rfl rfl, zin 6 rfl rfl, by decide, by decide, (by decide +kernel)⟩, zin 779 rfl rfl, zin 780 rfl rfl, ⟨_, rfl, rfl⟩⟩
set_option maxRecDepth 100000 in
theorem mv_m_tag : zMV M_m_tag 3 0 := ⟨⟨zin 786 rfl rfl, zin 6 rfl rfl, by decide, by decide, (by decide +kernel)⟩, zin 784 rfl rfl, zin 785 rfl rfl, ⟨_, rfl, rfl⟩⟩
set_option maxRecDepth 100000 in
theorem mv_m_signOf : zMV M_m_signOf 3 0 := ⟨⟨zin 790 rfl rfl, zin 6 rfl rfl, by decide, by decide, (by decide +kernel)⟩, zin 789 rfl rfl, zinS 35 rfl rfl, ⟨_, rfl, rfl⟩⟩
set_option maxRecDepth 100000 in
theorem mv_m_loose : zMV M_m_loose 1 0 := ⟨⟨zin 794 rfl rfl, zin 6 rfl rfl, by decide, by decide, (by decide +kernel)⟩, zin 792 rfl rfl, zin 793 rfl rfl, ⟨_, rfl, rfl⟩⟩
set_option maxRecDepth 100000 in
theorem mv_m_rebuild : zMV M_m_rebuild 1 0 := ⟨⟨zin 798 rfl rfl, zin 6 rfl rfl, by decide, by decide, (by decide +kernel)⟩, zin 796 rfl rfl, zin 797 rfl rfl, ⟨_, rfl, rfl⟩⟩
set_option maxRecDepth 100000 in
theorem kl9_B_1 : Cond.methodLink "ArtifactBags" 1 ⟨"java/lang/Object", "<init>", "()V"⟩ ∈ zT := zin 17 rfl rfl
set_option maxRecDepth 100000 in
theorem kl_B_1 : zLk "ArtifactBags" ⟨"java/lang/Object", "<init>", "()V"⟩ 1 := Or.inl (zin 17 rfl rfl)
set_option maxRecDepth 100000 in
theorem kl9_B_9 : Cond.methodLink "ArtifactBags" 9 ⟨"ArtifactBags$Bag", "<init>", "()V"⟩ ∈ zT := zin 22 rfl rfl
set_option maxRecDepth 100000 in
theorem kl_B_9 : zLk "ArtifactBags" ⟨"ArtifactBags$Bag", "<init>", "()V"⟩ 9 := Or.inl (zin 22 rfl rfl)
set_option maxRecDepth 100000 in
theorem kl9_B_21 : Cond.methodLink "ArtifactBags" 21 ⟨"ArtifactBags$Row", "<init>", "()V"⟩ ∈ zT := zin 83 rfl rfl
set_option maxRecDepth 100000 in
theorem kl_B_21 : zLk "ArtifactBags" ⟨"ArtifactBags$Row", "<init>", "()V"⟩ 21 := Or.inl (zin 83 rfl rfl)
set_option maxRecDepth 100000 in
theorem kl9_B_29 : Cond.methodLink "ArtifactBags" 29 ⟨"ArtifactBags", "isWritable", "(III)Z"⟩ ∈ zT := zin 116 rfl rfl
set_option maxRecDepth 100000 in
theorem kl_B_29 : zLk "ArtifactBags" ⟨"ArtifactBags", "isWritable", "(III)Z"⟩ 29 := Or.inl (zin 116 rfl rfl)
set_option maxRecDepth 100000 in
theorem kl9_B_33 : Cond.methodLink "ArtifactBags" 33 ⟨"ArtifactBags$Row", "clear", "()V"⟩ ∈ zT := zin 126 rfl rfl
set_option maxRecDepth 100000 in
theorem kl_B_33 : zLk "ArtifactBags" ⟨"ArtifactBags$Row", "clear", "()V"⟩ 33 := Or.inl (zin 126 rfl rfl)
set_option maxRecDepth 100000 in
theorem kl9_B_36 : Cond.methodLink "ArtifactBags" 36 ⟨"ArtifactBags", "writeCard", "(III)V"⟩ ∈ zT := zin 130 rfl rfl
set_option maxRecDepth 100000 in
theorem kl_B_36 : zLk "ArtifactBags" ⟨"ArtifactBags", "writeCard", "(III)V"⟩ 36 := Or.inl (zin 130 rfl rfl)
set_option maxRecDepth 100000 in
theorem kl9_B_44 : Cond.methodLink "ArtifactBags" 44 ⟨"ArtifactBags$Row", "hasRoomFor", "(I)Z"⟩ ∈ zT := zin 171 rfl rfl
set_option maxRecDepth 100000 in
theorem kl_B_44 : zLk "ArtifactBags" ⟨"ArtifactBags$Row", "hasRoomFor", "(I)Z"⟩ 44 := Or.inl (zin 171 rfl rfl)
set_option maxRecDepth 100000 in
theorem kl9_B_48 : Cond.methodLink "ArtifactBags" 48 ⟨"ArtifactBags$Row", "addRow", "(LArtifactBags$Row;)V"⟩ ∈ zT := zin 175 rfl rfl
set_option maxRecDepth 100000 in
theorem kl_B_48 : zLk "ArtifactBags" ⟨"ArtifactBags$Row", "addRow", "(LArtifactBags$Row;)V"⟩ 48 := Or.inl (zin 175 rfl rfl)
set_option maxRecDepth 100000 in
theorem kl9_B_52 : Cond.methodLink "ArtifactBags" 52 ⟨"ArtifactBags$Row", "add", "(I)V"⟩ ∈ zT := zin 183 rfl rfl
set_option maxRecDepth 100000 in
theorem kl_B_52 : zLk "ArtifactBags" ⟨"ArtifactBags$Row", "add", "(I)V"⟩ 52 := Or.inl (zin 183 rfl rfl)
set_option maxRecDepth 100000 in
theorem kl9_B_56 : Cond.methodLink "ArtifactBags" 56 ⟨"ArtifactBags", "bagOf", "(I)LArtifactBags$Bag;"⟩ ∈ zT := zin 192 rfl rfl
set_option maxRecDepth 100000 in
theorem kl_B_56 : zLk "ArtifactBags" ⟨"ArtifactBags", "bagOf", "(I)LArtifactBags$Bag;"⟩ 56 := Or.inl (zin 192 rfl rfl)
set_option maxRecDepth 100000 in
theorem kl9_B_64 : Cond.methodLink "ArtifactBags" 64 ⟨"ArtifactBags$Card", "read", "([BII)LArtifactBags$Card;"⟩ ∈ zT := zin 196 rfl rfl
set_option maxRecDepth 100000 in
theorem kl_B_64 : zLk "ArtifactBags" ⟨"ArtifactBags$Card", "read", "([BII)LArtifactBags$Card;"⟩ 64 := Or.inl (zin 196 rfl rfl)
set_option maxRecDepth 100000 in
theorem kl9_B_70 : Cond.methodLink "ArtifactBags" 70 ⟨"ArtifactBags$Bag", "digestWithFile", "(ILArtifactBags$Card;)I"⟩ ∈ zT := zin 248 rfl rfl
set_option maxRecDepth 100000 in
theorem kl_B_70 : zLk "ArtifactBags" ⟨"ArtifactBags$Bag", "digestWithFile", "(ILArtifactBags$Card;)I"⟩ 70 := Or.inl (zin 248 rfl rfl)
set_option maxRecDepth 100000 in
theorem kl9_B_74 : Cond.methodLink "ArtifactBags" 74 ⟨"ArtifactBags$Row", "digest", "()I"⟩ ∈ zT := zin 162 rfl rfl
set_option maxRecDepth 100000 in
theorem kl_B_74 : zLk "ArtifactBags" ⟨"ArtifactBags$Row", "digest", "()I"⟩ 74 := Or.inl (zin 162 rfl rfl)
set_option maxRecDepth 100000 in
theorem kl9_B_78 : Cond.methodLink "ArtifactBags" 78 ⟨"ArtifactBags$Bag", "holds", "(I)Z"⟩ ∈ zT := zin 261 rfl rfl
set_option maxRecDepth 100000 in
theorem kl_B_78 : zLk "ArtifactBags" ⟨"ArtifactBags$Bag", "holds", "(I)Z"⟩ 78 := Or.inl (zin 261 rfl rfl)
set_option maxRecDepth 100000 in
theorem kl9_B_81 : Cond.methodLink "ArtifactBags" 81 ⟨"ArtifactBags$Bag", "isFull", "()Z"⟩ ∈ zT := zin 265 rfl rfl
set_option maxRecDepth 100000 in
theorem kl_B_81 : zLk "ArtifactBags" ⟨"ArtifactBags$Bag", "isFull", "()Z"⟩ 81 := Or.inl (zin 265 rfl rfl)
set_option maxRecDepth 100000 in
theorem kl9_B_85 : Cond.methodLink "ArtifactBags" 85 ⟨"ArtifactBags$Artifact", "of", "(LArtifactBags$Row;)LArtifactBags$Artifact;"⟩ ∈ zT := zin 269 rfl rfl
set_option maxRecDepth 100000 in
theorem kl_B_85 : zLk "ArtifactBags" ⟨"ArtifactBags$Artifact", "of", "(LArtifactBags$Row;)LArtifactBags$Artifact;"⟩ 85 := Or.inl (zin 269 rfl rfl)
set_option maxRecDepth 100000 in
theorem kl9_B_91 : Cond.methodLink "ArtifactBags" 91 ⟨"ArtifactBags$Bag", "take", "(LArtifactBags$Artifact;)V"⟩ ∈ zT := zin 352 rfl rfl
set_option maxRecDepth 100000 in
theorem kl_B_91 : zLk "ArtifactBags" ⟨"ArtifactBags$Bag", "take", "(LArtifactBags$Artifact;)V"⟩ 91 := Or.inl (zin 352 rfl rfl)
set_option maxRecDepth 100000 in
theorem kl9_B_95 : Cond.methodLink "ArtifactBags" 95 ⟨"ArtifactBags$Bag", "gatherCluster", "(LArtifactBags$Row;)V"⟩ ∈ zT := zin 416 rfl rfl
set_option maxRecDepth 100000 in
theorem kl_B_95 : zLk "ArtifactBags" ⟨"ArtifactBags$Bag", "gatherCluster", "(LArtifactBags$Row;)V"⟩ 95 := Or.inl (zin 416 rfl rfl)
set_option maxRecDepth 100000 in
theorem kl9_B_98 : Cond.methodLink "ArtifactBags" 98 ⟨"ArtifactBags$Bag", "sendTo", "(LArtifactBags$Bag;I)I"⟩ ∈ zT := zin 437 rfl rfl
set_option maxRecDepth 100000 in
theorem kl_B_98 : zLk "ArtifactBags" ⟨"ArtifactBags$Bag", "sendTo", "(LArtifactBags$Bag;I)I"⟩ 98 := Or.inl (zin 437 rfl rfl)
set_option maxRecDepth 100000 in
theorem kl9_B_112 : Cond.methodLink "ArtifactBags" 112 ⟨"ArtifactBags", "artifactOf", "(II)LArtifactBags$Artifact;"⟩ ∈ zT := zin 457 rfl rfl
set_option maxRecDepth 100000 in
theorem kl_B_112 : zLk "ArtifactBags" ⟨"ArtifactBags", "artifactOf", "(II)LArtifactBags$Artifact;"⟩ 112 := Or.inl (zin 457 rfl rfl)
set_option maxRecDepth 100000 in
theorem kl9_B_129 : Cond.methodLink "ArtifactBags" 129 ⟨"ArtifactBags$NameSet", "contains", "(I)Z"⟩ ∈ zT := zin 474 rfl rfl
set_option maxRecDepth 100000 in
theorem kl_B_129 : zLk "ArtifactBags" ⟨"ArtifactBags$NameSet", "contains", "(I)Z"⟩ 129 := Or.inl (zin 474 rfl rfl)
set_option maxRecDepth 100000 in
theorem kl9_B_139 : Cond.methodLink "ArtifactBags" 139 ⟨"ArtifactBags$History", "nameAt", "(I)I"⟩ ∈ zT := zin 483 rfl rfl
set_option maxRecDepth 100000 in
theorem kl_B_139 : zLk "ArtifactBags" ⟨"ArtifactBags$History", "nameAt", "(I)I"⟩ 139 := Or.inl (zin 483 rfl rfl)
set_option maxRecDepth 100000 in
theorem kl9_B_143 : Cond.methodLink "ArtifactBags" 143 ⟨"ArtifactBags$History", "countChildren", "(I)I"⟩ ∈ zT := zin 491 rfl rfl
set_option maxRecDepth 100000 in
theorem kl_B_143 : zLk "ArtifactBags" ⟨"ArtifactBags$History", "countChildren", "(I)I"⟩ 143 := Or.inl (zin 491 rfl rfl)
set_option maxRecDepth 100000 in
theorem kl9_B_146 : Cond.methodLink "ArtifactBags" 146 ⟨"ArtifactBags$History", "countLeaves", "()I"⟩ ∈ zT := zin 503 rfl rfl
set_option maxRecDepth 100000 in
theorem kl_B_146 : zLk "ArtifactBags" ⟨"ArtifactBags$History", "countLeaves", "()I"⟩ 146 := Or.inl (zin 503 rfl rfl)
set_option maxRecDepth 100000 in
theorem kl9_B_149 : Cond.methodLink "ArtifactBags" 149 ⟨"ArtifactBags", "isDigit", "(I)Z"⟩ ∈ zT := zin 119 rfl rfl
set_option maxRecDepth 100000 in
theorem kl_B_149 : zLk "ArtifactBags" ⟨"ArtifactBags", "isDigit", "(I)Z"⟩ 149 := Or.inl (zin 119 rfl rfl)
set_option maxRecDepth 100000 in
theorem kl9_B_152 : Cond.methodLink "ArtifactBags" 152 ⟨"ArtifactBags$Bag", "tagOf", "(II)I"⟩ ∈ zT := zin 512 rfl rfl
set_option maxRecDepth 100000 in
theorem kl_B_152 : zLk "ArtifactBags" ⟨"ArtifactBags$Bag", "tagOf", "(II)I"⟩ 152 := Or.inl (zin 512 rfl rfl)
set_option maxRecDepth 100000 in
theorem kl9_B_156 : Cond.methodLink "ArtifactBags" 156 ⟨"ArtifactBags$Bag", "countLoose", "()I"⟩ ∈ zT := zin 524 rfl rfl
set_option maxRecDepth 100000 in
theorem kl_B_156 : zLk "ArtifactBags" ⟨"ArtifactBags$Bag", "countLoose", "()I"⟩ 156 := Or.inl (zin 524 rfl rfl)
set_option maxRecDepth 100000 in
theorem kl9_B_159 : Cond.methodLink "ArtifactBags" 159 ⟨"ArtifactBags$Bag", "deriveAnew", "()V"⟩ ∈ zT := zin 529 rfl rfl
set_option maxRecDepth 100000 in
theorem kl_B_159 : zLk "ArtifactBags" ⟨"ArtifactBags$Bag", "deriveAnew", "()V"⟩ 159 := Or.inl (zin 529 rfl rfl)
set_option maxRecDepth 100000 in
theorem kl9_B_162 : Cond.methodLink "ArtifactBags" 162 ⟨"ArtifactBags$Bag", "find", "(I)LArtifactBags$Artifact;"⟩ ∈ zT := zin 461 rfl rfl
set_option maxRecDepth 100000 in
theorem kl_B_162 : zLk "ArtifactBags" ⟨"ArtifactBags$Bag", "find", "(I)LArtifactBags$Artifact;"⟩ 162 := Or.inl (zin 461 rfl rfl)
set_option maxRecDepth 100000 in
theorem kl9_B_167 : Cond.methodLink "ArtifactBags" 167 ⟨"ArtifactBags", "isName", "(I)Z"⟩ ∈ zT := zin 122 rfl rfl
set_option maxRecDepth 100000 in
theorem kl_B_167 : zLk "ArtifactBags" ⟨"ArtifactBags", "isName", "(I)Z"⟩ 167 := Or.inl (zin 122 rfl rfl)
set_option maxRecDepth 100000 in
theorem kl9_B_170 : Cond.methodLink "ArtifactBags" 170 ⟨"ArtifactBags$Row", "addTimeCard", "(I)V"⟩ ∈ zT := zin 134 rfl rfl
set_option maxRecDepth 100000 in
theorem kl_B_170 : zLk "ArtifactBags" ⟨"ArtifactBags$Row", "addTimeCard", "(I)V"⟩ 170 := Or.inl (zin 134 rfl rfl)
set_option maxRecDepth 100000 in
theorem kl9_B_173 : Cond.methodLink "ArtifactBags" 173 ⟨"ArtifactBags$Row", "addFileCard", "(II)V"⟩ ∈ zT := zin 142 rfl rfl
set_option maxRecDepth 100000 in
theorem kl_B_173 : zLk "ArtifactBags" ⟨"ArtifactBags$Row", "addFileCard", "(II)V"⟩ 173 := Or.inl (zin 142 rfl rfl)
set_option maxRecDepth 100000 in
theorem kl9_B_177 : Cond.methodLink "ArtifactBags" 177 ⟨"ArtifactBags$Row", "addNameCard", "(II)V"⟩ ∈ zT := zin 150 rfl rfl
set_option maxRecDepth 100000 in
theorem kl_B_177 : zLk "ArtifactBags" ⟨"ArtifactBags$Row", "addNameCard", "(II)V"⟩ 177 := Or.inl (zin 150 rfl rfl)
set_option maxRecDepth 100000 in
theorem kl9_B_180 : Cond.methodLink "ArtifactBags" 180 ⟨"ArtifactBags$Row", "addParentCard", "(II)V"⟩ ∈ zT := zin 154 rfl rfl
set_option maxRecDepth 100000 in
theorem kl_B_180 : zLk "ArtifactBags" ⟨"ArtifactBags$Row", "addParentCard", "(II)V"⟩ 180 := Or.inl (zin 154 rfl rfl)
set_option maxRecDepth 100000 in
theorem kl9_B_183 : Cond.methodLink "ArtifactBags" 183 ⟨"ArtifactBags$Row", "addTagCard", "(II)V"⟩ ∈ zT := zin 158 rfl rfl
set_option maxRecDepth 100000 in
theorem kl_B_183 : zLk "ArtifactBags" ⟨"ArtifactBags$Row", "addTagCard", "(II)V"⟩ 183 := Or.inl (zin 158 rfl rfl)
set_option maxRecDepth 100000 in
theorem kl9_A_3 : Cond.methodLink "ArtifactBags$Artifact" 3 ⟨"java/lang/Object", "<init>", "()V"⟩ ∈ zT := zin 319 rfl rfl
set_option maxRecDepth 100000 in
theorem kl_A_3 : zLk "ArtifactBags$Artifact" ⟨"java/lang/Object", "<init>", "()V"⟩ 3 := Or.inl (zin 319 rfl rfl)
set_option maxRecDepth 100000 in
theorem kl_A_15 : zLk "ArtifactBags$Artifact" ⟨"ArtifactBags", "digestAfter", "(I[BI)I"⟩ 15 := Or.inr ⟨"ArtifactBags", zinN 304 rfl rfl⟩
set_option maxRecDepth 100000 in
theorem kl9_A_30 : Cond.methodLink "ArtifactBags$Artifact" 30 ⟨"ArtifactBags$Artifact", "numberOf", "(I[LArtifactBags$Card;)I"⟩ ∈ zT := zin 320 rfl rfl
set_option maxRecDepth 100000 in
theorem kl_A_30 : zLk "ArtifactBags$Artifact" ⟨"ArtifactBags$Artifact", "numberOf", "(I[LArtifactBags$Card;)I"⟩ 30 := Or.inl (zin 320 rfl rfl)
set_option maxRecDepth 100000 in
theorem kl9_A_46 : Cond.methodLink "ArtifactBags$Artifact" 46 ⟨"java/util/Arrays", "copyOf", "([BI)[B"⟩ ∈ zT := zin 272 rfl rfl
set_option maxRecDepth 100000 in
theorem kl_A_46 : zLk "ArtifactBags$Artifact" ⟨"java/util/Arrays", "copyOf", "([BI)[B"⟩ 46 := Or.inl (zin 272 rfl rfl)
set_option maxRecDepth 100000 in
theorem kl9_A_52 : Cond.methodLink "ArtifactBags$Artifact" 52 ⟨"ArtifactBags$Artifact", "readLines", "([B)[LArtifactBags$Card;"⟩ ∈ zT := zin 288 rfl rfl
set_option maxRecDepth 100000 in
theorem kl_A_52 : zLk "ArtifactBags$Artifact" ⟨"ArtifactBags$Artifact", "readLines", "([B)[LArtifactBags$Card;"⟩ 52 := Or.inl (zin 288 rfl rfl)
set_option maxRecDepth 100000 in
theorem kl9_A_56 : Cond.methodLink "ArtifactBags$Artifact" 56 ⟨"ArtifactBags$Artifact", "isWellFormed", "([B[LArtifactBags$Card;)Z"⟩ ∈ zT := zin 297 rfl rfl
set_option maxRecDepth 100000 in
theorem kl_A_56 : zLk "ArtifactBags$Artifact" ⟨"ArtifactBags$Artifact", "isWellFormed", "([B[LArtifactBags$Card;)Z"⟩ 56 := Or.inl (zin 297 rfl rfl)
set_option maxRecDepth 100000 in
theorem kl9_A_60 : Cond.methodLink "ArtifactBags$Artifact" 60 ⟨"ArtifactBags$Artifact", "sortOf", "([LArtifactBags$Card;)I"⟩ ∈ zT := zin 305 rfl rfl
set_option maxRecDepth 100000 in
theorem kl_A_60 : zLk "ArtifactBags$Artifact" ⟨"ArtifactBags$Artifact", "sortOf", "([LArtifactBags$Card;)I"⟩ 60 := Or.inl (zin 305 rfl rfl)
set_option maxRecDepth 100000 in
theorem kl9_A_66 : Cond.methodLink "ArtifactBags$Artifact" 66 ⟨"ArtifactBags$Artifact", "<init>", "([BI[LArtifactBags$Card;)V"⟩ ∈ zT := zin 316 rfl rfl
set_option maxRecDepth 100000 in
theorem kl_A_66 : zLk "ArtifactBags$Artifact" ⟨"ArtifactBags$Artifact", "<init>", "([BI[LArtifactBags$Card;)V"⟩ 66 := Or.inl (zin 316 rfl rfl)
set_option maxRecDepth 100000 in
theorem kl9_A_69 : Cond.methodLink "ArtifactBags$Artifact" 69 ⟨"ArtifactBags$Artifact", "countLines", "([B)I"⟩ ∈ zT := zin 293 rfl rfl
set_option maxRecDepth 100000 in
theorem kl_A_69 : zLk "ArtifactBags$Artifact" ⟨"ArtifactBags$Artifact", "countLines", "([B)I"⟩ 69 := Or.inl (zin 293 rfl rfl)
set_option maxRecDepth 100000 in
theorem kl9_A_73 : Cond.methodLink "ArtifactBags$Artifact" 73 ⟨"ArtifactBags$Card", "read", "([BII)LArtifactBags$Card;"⟩ ∈ zT := zin 296 rfl rfl
set_option maxRecDepth 100000 in
theorem kl_A_73 : zLk "ArtifactBags$Artifact" ⟨"ArtifactBags$Card", "read", "([BII)LArtifactBags$Card;"⟩ 73 := Or.inl (zin 296 rfl rfl)
set_option maxRecDepth 100000 in
theorem kl9_A_77 : Cond.methodLink "ArtifactBags$Artifact" 77 ⟨"ArtifactBags$Card", "mayFollow", "(LArtifactBags$Card;)Z"⟩ ∈ zT := zin 300 rfl rfl
set_option maxRecDepth 100000 in
theorem kl_A_77 : zLk "ArtifactBags$Artifact" ⟨"ArtifactBags$Card", "mayFollow", "(LArtifactBags$Card;)Z"⟩ 77 := Or.inl (zin 300 rfl rfl)
set_option maxRecDepth 100000 in
theorem kl9_A_87 : Cond.methodLink "ArtifactBags$Artifact" 87 ⟨"ArtifactBags$Artifact", "countOf", "(I[LArtifactBags$Card;)I"⟩ ∈ zT := zin 308 rfl rfl
set_option maxRecDepth 100000 in
theorem kl_A_87 : zLk "ArtifactBags$Artifact" ⟨"ArtifactBags$Artifact", "countOf", "(I[LArtifactBags$Card;)I"⟩ 87 := Or.inl (zin 308 rfl rfl)
set_option maxRecDepth 100000 in
theorem kl9_A_90 : Cond.methodLink "ArtifactBags$Artifact" 90 ⟨"ArtifactBags$Artifact", "countStarred", "([LArtifactBags$Card;)I"⟩ ∈ zT := zin 311 rfl rfl
set_option maxRecDepth 100000 in
theorem kl_A_90 : zLk "ArtifactBags$Artifact" ⟨"ArtifactBags$Artifact", "countStarred", "([LArtifactBags$Card;)I"⟩ 90 := Or.inl (zin 311 rfl rfl)
set_option maxRecDepth 100000 in
theorem kl9_G_3 : Cond.methodLink "ArtifactBags$Bag" 3 ⟨"java/lang/Object", "<init>", "()V"⟩ ∈ zT := zin 25 rfl rfl
set_option maxRecDepth 100000 in
theorem kl_G_3 : zLk "ArtifactBags$Bag" ⟨"java/lang/Object", "<init>", "()V"⟩ 3 := Or.inl (zin 25 rfl rfl)
set_option maxRecDepth 100000 in
theorem kl9_G_23 : Cond.methodLink "ArtifactBags$Bag" 23 ⟨"ArtifactBags$History", "<init>", "()V"⟩ ∈ zT := zin 30 rfl rfl
set_option maxRecDepth 100000 in
theorem kl_G_23 : zLk "ArtifactBags$Bag" ⟨"ArtifactBags$History", "<init>", "()V"⟩ 23 := Or.inl (zin 30 rfl rfl)
set_option maxRecDepth 100000 in
theorem kl9_G_30 : Cond.methodLink "ArtifactBags$Bag" 30 ⟨"ArtifactBags$NameSet", "<init>", "()V"⟩ ∈ zT := zin 45 rfl rfl
set_option maxRecDepth 100000 in
theorem kl_G_30 : zLk "ArtifactBags$Bag" ⟨"ArtifactBags$NameSet", "<init>", "()V"⟩ 30 := Or.inl (zin 45 rfl rfl)
set_option maxRecDepth 100000 in
theorem kl9_G_41 : Cond.methodLink "ArtifactBags$Bag" 41 ⟨"ArtifactBags$Bag", "find", "(I)LArtifactBags$Artifact;"⟩ ∈ zT := zin 252 rfl rfl
set_option maxRecDepth 100000 in
theorem kl_G_41 : zLk "ArtifactBags$Bag" ⟨"ArtifactBags$Bag", "find", "(I)LArtifactBags$Artifact;"⟩ 41 := Or.inl (zin 252 rfl rfl)
set_option maxRecDepth 100000 in
theorem kl9_G_48 : Cond.methodLink "ArtifactBags$Bag" 48 ⟨"ArtifactBags$Bag", "isFull", "()Z"⟩ ∈ zT := zin 356 rfl rfl
set_option maxRecDepth 100000 in
theorem kl_G_48 : zLk "ArtifactBags$Bag" ⟨"ArtifactBags$Bag", "isFull", "()Z"⟩ 48 := Or.inl (zin 356 rfl rfl)
set_option maxRecDepth 100000 in
theorem kl9_G_52 : Cond.methodLink "ArtifactBags$Bag" 52 ⟨"ArtifactBags$Bag", "holds", "(I)Z"⟩ ∈ zT := zin 357 rfl rfl
set_option maxRecDepth 100000 in
theorem kl_G_52 : zLk "ArtifactBags$Bag" ⟨"ArtifactBags$Bag", "holds", "(I)Z"⟩ 52 := Or.inl (zin 357 rfl rfl)
set_option maxRecDepth 100000 in
theorem kl9_G_56 : Cond.methodLink "ArtifactBags$Bag" 56 ⟨"ArtifactBags$Bag", "insert", "(LArtifactBags$Artifact;)V"⟩ ∈ zT := zin 358 rfl rfl
set_option maxRecDepth 100000 in
theorem kl_G_56 : zLk "ArtifactBags$Bag" ⟨"ArtifactBags$Bag", "insert", "(LArtifactBags$Artifact;)V"⟩ 56 := Or.inl (zin 358 rfl rfl)
set_option maxRecDepth 100000 in
theorem kl9_G_60 : Cond.methodLink "ArtifactBags$Bag" 60 ⟨"ArtifactBags$NameSet", "remove", "(I)V"⟩ ∈ zT := zin 362 rfl rfl
set_option maxRecDepth 100000 in
theorem kl_G_60 : zLk "ArtifactBags$Bag" ⟨"ArtifactBags$NameSet", "remove", "(I)V"⟩ 60 := Or.inl (zin 362 rfl rfl)
set_option maxRecDepth 100000 in
theorem kl9_G_64 : Cond.methodLink "ArtifactBags$Bag" 64 ⟨"ArtifactBags$Bag", "noteNamesOf", "(LArtifactBags$Artifact;)V"⟩ ∈ zT := zin 371 rfl rfl
set_option maxRecDepth 100000 in
theorem kl_G_64 : zLk "ArtifactBags$Bag" ⟨"ArtifactBags$Bag", "noteNamesOf", "(LArtifactBags$Artifact;)V"⟩ 64 := Or.inl (zin 371 rfl rfl)
set_option maxRecDepth 100000 in
theorem kl9_G_67 : Cond.methodLink "ArtifactBags$Bag" 67 ⟨"ArtifactBags$Artifact", "namesFile", "(I)Z"⟩ ∈ zT := zin 395 rfl rfl
set_option maxRecDepth 100000 in
theorem kl_G_67 : zLk "ArtifactBags$Bag" ⟨"ArtifactBags$Artifact", "namesFile", "(I)Z"⟩ 67 := Or.inl (zin 395 rfl rfl)
set_option maxRecDepth 100000 in
theorem kl9_G_70 : Cond.methodLink "ArtifactBags$Bag" 70 ⟨"ArtifactBags$Bag", "noteIfCheckIn", "(LArtifactBags$Artifact;)V"⟩ ∈ zT := zin 399 rfl rfl
set_option maxRecDepth 100000 in
theorem kl_G_70 : zLk "ArtifactBags$Bag" ⟨"ArtifactBags$Bag", "noteIfCheckIn", "(LArtifactBags$Artifact;)V"⟩ 70 := Or.inl (zin 399 rfl rfl)
set_option maxRecDepth 100000 in
theorem kl9_G_73 : Cond.methodLink "ArtifactBags$Bag" 73 ⟨"ArtifactBags$History", "clear", "()V"⟩ ∈ zT := zin 533 rfl rfl
set_option maxRecDepth 100000 in
theorem kl_G_73 : zLk "ArtifactBags$Bag" ⟨"ArtifactBags$History", "clear", "()V"⟩ 73 := Or.inl (zin 533 rfl rfl)
set_option maxRecDepth 100000 in
theorem kl9_G_76 : Cond.methodLink "ArtifactBags$Bag" 76 ⟨"ArtifactBags$NameSet", "clear", "()V"⟩ ∈ zT := zin 537 rfl rfl
set_option maxRecDepth 100000 in
theorem kl_G_76 : zLk "ArtifactBags$Bag" ⟨"ArtifactBags$NameSet", "clear", "()V"⟩ 76 := Or.inl (zin 537 rfl rfl)
set_option maxRecDepth 100000 in
theorem kl9_G_81 : Cond.methodLink "ArtifactBags$Bag" 81 ⟨"ArtifactBags$Card", "namesWhatIsNeeded", "()Z"⟩ ∈ zT := zin 375 rfl rfl
set_option maxRecDepth 100000 in
theorem kl_G_81 : zLk "ArtifactBags$Bag" ⟨"ArtifactBags$Card", "namesWhatIsNeeded", "()Z"⟩ 81 := Or.inl (zin 375 rfl rfl)
set_option maxRecDepth 100000 in
theorem kl9_G_89 : Cond.methodLink "ArtifactBags$Bag" 89 ⟨"ArtifactBags$Bag", "want", "(I)V"⟩ ∈ zT := zin 379 rfl rfl
set_option maxRecDepth 100000 in
theorem kl_G_89 : zLk "ArtifactBags$Bag" ⟨"ArtifactBags$Bag", "want", "(I)V"⟩ 89 := Or.inl (zin 379 rfl rfl)
set_option maxRecDepth 100000 in
theorem kl9_G_98 : Cond.methodLink "ArtifactBags$Bag" 98 ⟨"ArtifactBags$NameSet", "add", "(I)V"⟩ ∈ zT := zin 383 rfl rfl
set_option maxRecDepth 100000 in
theorem kl_G_98 : zLk "ArtifactBags$Bag" ⟨"ArtifactBags$NameSet", "add", "(I)V"⟩ 98 := Or.inl (zin 383 rfl rfl)
set_option maxRecDepth 100000 in
theorem kl9_G_104 : Cond.methodLink "ArtifactBags$Bag" 104 ⟨"ArtifactBags$Bag", "digestWithFile", "(ILArtifactBags$Card;)I"⟩ ∈ zT := zin 403 rfl rfl
set_option maxRecDepth 100000 in
theorem kl_G_104 : zLk "ArtifactBags$Bag" ⟨"ArtifactBags$Bag", "digestWithFile", "(ILArtifactBags$Card;)I"⟩ 104 := Or.inl (zin 403 rfl rfl)
set_option maxRecDepth 100000 in
theorem kl9_G_111 : Cond.methodLink "ArtifactBags$Bag" 111 ⟨"ArtifactBags$History", "add", "(LArtifactBags$Artifact;)V"⟩ ∈ zT := zin 404 rfl rfl
set_option maxRecDepth 100000 in
theorem kl_G_111 : zLk "ArtifactBags$Bag" ⟨"ArtifactBags$History", "add", "(LArtifactBags$Artifact;)V"⟩ 111 := Or.inl (zin 404 rfl rfl)
set_option maxRecDepth 100000 in
theorem kl_G_117 : zLk "ArtifactBags$Bag" ⟨"ArtifactBags", "digestAfter", "(I[BI)I"⟩ 117 := Or.inr ⟨"ArtifactBags", zinN 256 rfl rfl⟩
set_option maxRecDepth 100000 in
theorem kl9_G_121 : Cond.methodLink "ArtifactBags$Bag" 121 ⟨"ArtifactBags$NameSet", "contains", "(I)Z"⟩ ∈ zT := zin 428 rfl rfl
set_option maxRecDepth 100000 in
theorem kl_G_121 : zLk "ArtifactBags$Bag" ⟨"ArtifactBags$NameSet", "contains", "(I)Z"⟩ 121 := Or.inl (zin 428 rfl rfl)
set_option maxRecDepth 100000 in
theorem kl9_G_124 : Cond.methodLink "ArtifactBags$Bag" 124 ⟨"ArtifactBags$Bag", "isLoose", "(LArtifactBags$Artifact;)Z"⟩ ∈ zT := zin 424 rfl rfl
set_option maxRecDepth 100000 in
theorem kl_G_124 : zLk "ArtifactBags$Bag" ⟨"ArtifactBags$Bag", "isLoose", "(LArtifactBags$Artifact;)Z"⟩ 124 := Or.inl (zin 424 rfl rfl)
set_option maxRecDepth 100000 in
theorem kl9_G_128 : Cond.methodLink "ArtifactBags$Bag" 128 ⟨"ArtifactBags$Artifact", "tagCardFor", "(II)LArtifactBags$Card;"⟩ ∈ zT := zin 516 rfl rfl
set_option maxRecDepth 100000 in
theorem kl_G_128 : zLk "ArtifactBags$Bag" ⟨"ArtifactBags$Artifact", "tagCardFor", "(II)LArtifactBags$Card;"⟩ 128 := Or.inl (zin 516 rfl rfl)
set_option maxRecDepth 100000 in
theorem kl9_G_139 : Cond.methodLink "ArtifactBags$Bag" 139 ⟨"ArtifactBags$Bag", "countLoose", "()I"⟩ ∈ zT := zin 420 rfl rfl
set_option maxRecDepth 100000 in
theorem kl_G_139 : zLk "ArtifactBags$Bag" ⟨"ArtifactBags$Bag", "countLoose", "()I"⟩ 139 := Or.inl (zin 420 rfl rfl)
set_option maxRecDepth 100000 in
theorem kl9_G_143 : Cond.methodLink "ArtifactBags$Bag" 143 ⟨"ArtifactBags$Row", "clear", "()V"⟩ ∈ zT := zin 432 rfl rfl
set_option maxRecDepth 100000 in
theorem kl_G_143 : zLk "ArtifactBags$Bag" ⟨"ArtifactBags$Row", "clear", "()V"⟩ 143 := Or.inl (zin 432 rfl rfl)
set_option maxRecDepth 100000 in
theorem kl9_G_146 : Cond.methodLink "ArtifactBags$Bag" 146 ⟨"ArtifactBags$Row", "addNameCard", "(II)V"⟩ ∈ zT := zin 433 rfl rfl
set_option maxRecDepth 100000 in
theorem kl_G_146 : zLk "ArtifactBags$Bag" ⟨"ArtifactBags$Row", "addNameCard", "(II)V"⟩ 146 := Or.inl (zin 433 rfl rfl)
set_option maxRecDepth 100000 in
theorem kl9_G_150 : Cond.methodLink "ArtifactBags$Bag" 150 ⟨"ArtifactBags$Row", "digest", "()I"⟩ ∈ zT := zin 434 rfl rfl
set_option maxRecDepth 100000 in
theorem kl_G_150 : zLk "ArtifactBags$Bag" ⟨"ArtifactBags$Row", "digest", "()I"⟩ 150 := Or.inl (zin 434 rfl rfl)
set_option maxRecDepth 100000 in
theorem kl9_G_153 : Cond.methodLink "ArtifactBags$Bag" 153 ⟨"ArtifactBags$Artifact", "of", "(LArtifactBags$Row;)LArtifactBags$Artifact;"⟩ ∈ zT := zin 435 rfl rfl
set_option maxRecDepth 100000 in
theorem kl_G_153 : zLk "ArtifactBags$Bag" ⟨"ArtifactBags$Artifact", "of", "(LArtifactBags$Row;)LArtifactBags$Artifact;"⟩ 153 := Or.inl (zin 435 rfl rfl)
set_option maxRecDepth 100000 in
theorem kl9_G_157 : Cond.methodLink "ArtifactBags$Bag" 157 ⟨"ArtifactBags$Bag", "take", "(LArtifactBags$Artifact;)V"⟩ ∈ zT := zin 436 rfl rfl
set_option maxRecDepth 100000 in
theorem kl_G_157 : zLk "ArtifactBags$Bag" ⟨"ArtifactBags$Bag", "take", "(LArtifactBags$Artifact;)V"⟩ 157 := Or.inl (zin 436 rfl rfl)
set_option maxRecDepth 100000 in
theorem kl9_G_160 : Cond.methodLink "ArtifactBags$Bag" 160 ⟨"ArtifactBags$NameSet", "copyFrom", "(LArtifactBags$NameSet;)V"⟩ ∈ zT := zin 441 rfl rfl
set_option maxRecDepth 100000 in
theorem kl_G_160 : zLk "ArtifactBags$Bag" ⟨"ArtifactBags$NameSet", "copyFrom", "(LArtifactBags$NameSet;)V"⟩ 160 := Or.inl (zin 441 rfl rfl)
set_option maxRecDepth 100000 in
theorem kl9_C_3 : Cond.methodLink "ArtifactBags$Card" 3 ⟨"java/lang/Object", "<init>", "()V"⟩ ∈ zT := zin 208 rfl rfl
set_option maxRecDepth 100000 in
theorem kl_C_3 : zLk "ArtifactBags$Card" ⟨"java/lang/Object", "<init>", "()V"⟩ 3 := Or.inl (zin 208 rfl rfl)
set_option maxRecDepth 100000 in
theorem kl9_C_28 : Cond.methodLink "ArtifactBags$Card" 28 ⟨"ArtifactBags$Card", "readTime", "([BII)LArtifactBags$Card;"⟩ ∈ zT := zin 199 rfl rfl
set_option maxRecDepth 100000 in
theorem kl_C_28 : zLk "ArtifactBags$Card" ⟨"ArtifactBags$Card", "readTime", "([BII)LArtifactBags$Card;"⟩ 28 := Or.inl (zin 199 rfl rfl)
set_option maxRecDepth 100000 in
theorem kl9_C_32 : Cond.methodLink "ArtifactBags$Card" 32 ⟨"ArtifactBags$Card", "readFile", "([BII)LArtifactBags$Card;"⟩ ∈ zT := zin 233 rfl rfl
set_option maxRecDepth 100000 in
theorem kl_C_32 : zLk "ArtifactBags$Card" ⟨"ArtifactBags$Card", "readFile", "([BII)LArtifactBags$Card;"⟩ 32 := Or.inl (zin 233 rfl rfl)
set_option maxRecDepth 100000 in
theorem kl9_C_35 : Cond.methodLink "ArtifactBags$Card" 35 ⟨"ArtifactBags$Card", "readOneName", "(I[BII)LArtifactBags$Card;"⟩ ∈ zT := zin 239 rfl rfl
set_option maxRecDepth 100000 in
theorem kl_C_35 : zLk "ArtifactBags$Card" ⟨"ArtifactBags$Card", "readOneName", "(I[BII)LArtifactBags$Card;"⟩ 35 := Or.inl (zin 239 rfl rfl)
set_option maxRecDepth 100000 in
theorem kl9_C_39 : Cond.methodLink "ArtifactBags$Card" 39 ⟨"ArtifactBags$Card", "readTwoParents", "([BII)LArtifactBags$Card;"⟩ ∈ zT := zin 242 rfl rfl
set_option maxRecDepth 100000 in
theorem kl_C_39 : zLk "ArtifactBags$Card" ⟨"ArtifactBags$Card", "readTwoParents", "([BII)LArtifactBags$Card;"⟩ 39 := Or.inl (zin 242 rfl rfl)
set_option maxRecDepth 100000 in
theorem kl9_C_42 : Cond.methodLink "ArtifactBags$Card" 42 ⟨"ArtifactBags$Card", "readTag", "([BII)LArtifactBags$Card;"⟩ ∈ zT := zin 245 rfl rfl
set_option maxRecDepth 100000 in
theorem kl_C_42 : zLk "ArtifactBags$Card" ⟨"ArtifactBags$Card", "readTag", "([BII)LArtifactBags$Card;"⟩ 42 := Or.inl (zin 245 rfl rfl)
set_option maxRecDepth 100000 in
theorem kl_C_45 : zLk "ArtifactBags$Card" ⟨"ArtifactBags", "isDigit", "(I)Z"⟩ 45 := Or.inr ⟨"ArtifactBags", zinN 202 rfl rfl⟩
set_option maxRecDepth 100000 in
theorem kl9_C_49 : Cond.methodLink "ArtifactBags$Card" 49 ⟨"ArtifactBags$Card", "<init>", "(IIZII)V"⟩ ∈ zT := zin 205 rfl rfl
set_option maxRecDepth 100000 in
theorem kl_C_49 : zLk "ArtifactBags$Card" ⟨"ArtifactBags$Card", "<init>", "(IIZII)V"⟩ 49 := Or.inl (zin 205 rfl rfl)
set_option maxRecDepth 100000 in
theorem kl9_C_52 : Cond.methodLink "ArtifactBags$Card" 52 ⟨"ArtifactBags$Card", "readName", "([BI)I"⟩ ∈ zT := zin 236 rfl rfl
set_option maxRecDepth 100000 in
theorem kl_C_52 : zLk "ArtifactBags$Card" ⟨"ArtifactBags$Card", "readName", "([BI)I"⟩ 52 := Or.inl (zin 236 rfl rfl)
set_option maxRecDepth 100000 in
theorem kl9_H_3 : Cond.methodLink "ArtifactBags$History" 3 ⟨"java/lang/Object", "<init>", "()V"⟩ ∈ zT := zin 33 rfl rfl
set_option maxRecDepth 100000 in
theorem kl_H_3 : zLk "ArtifactBags$History" ⟨"java/lang/Object", "<init>", "()V"⟩ 3 := Or.inl (zin 33 rfl rfl)
set_option maxRecDepth 100000 in
theorem kl9_H_21 : Cond.methodLink "ArtifactBags$History" 21 ⟨"ArtifactBags$Artifact", "isEarlierThan", "(LArtifactBags$Artifact;)Z"⟩ ∈ zT := zin 408 rfl rfl
set_option maxRecDepth 100000 in
theorem kl_H_21 : zLk "ArtifactBags$History" ⟨"ArtifactBags$Artifact", "isEarlierThan", "(LArtifactBags$Artifact;)Z"⟩ 21 := Or.inl (zin 408 rfl rfl)
set_option maxRecDepth 100000 in
theorem kl9_H_28 : Cond.methodLink "ArtifactBags$History" 28 ⟨"ArtifactBags$Artifact", "namesParent", "(I)Z"⟩ ∈ zT := zin 495 rfl rfl
set_option maxRecDepth 100000 in
theorem kl_H_28 : zLk "ArtifactBags$History" ⟨"ArtifactBags$Artifact", "namesParent", "(I)Z"⟩ 28 := Or.inl (zin 495 rfl rfl)
set_option maxRecDepth 100000 in
theorem kl9_H_32 : Cond.methodLink "ArtifactBags$History" 32 ⟨"ArtifactBags$History", "countChildren", "(I)I"⟩ ∈ zT := zin 507 rfl rfl
set_option maxRecDepth 100000 in
theorem kl_H_32 : zLk "ArtifactBags$History" ⟨"ArtifactBags$History", "countChildren", "(I)I"⟩ 32 := Or.inl (zin 507 rfl rfl)
set_option maxRecDepth 100000 in
theorem kl9_N_1 : Cond.methodLink "ArtifactBags$NameSet" 1 ⟨"java/lang/Object", "<init>", "()V"⟩ ∈ zT := zin 48 rfl rfl
set_option maxRecDepth 100000 in
theorem kl_N_1 : zLk "ArtifactBags$NameSet" ⟨"java/lang/Object", "<init>", "()V"⟩ 1 := Or.inl (zin 48 rfl rfl)
set_option maxRecDepth 100000 in
theorem kl9_N_17 : Cond.methodLink "ArtifactBags$NameSet" 17 ⟨"ArtifactBags$NameSet", "placeOf", "(I)I"⟩ ∈ zT := zin 366 rfl rfl
set_option maxRecDepth 100000 in
theorem kl_N_17 : zLk "ArtifactBags$NameSet" ⟨"ArtifactBags$NameSet", "placeOf", "(I)I"⟩ 17 := Or.inl (zin 366 rfl rfl)
set_option maxRecDepth 100000 in
theorem kl9_N_21 : Cond.methodLink "ArtifactBags$NameSet" 21 ⟨"java/util/Arrays", "copyOf", "([II)[I"⟩ ∈ zT := zin 387 rfl rfl
set_option maxRecDepth 100000 in
theorem kl_N_21 : zLk "ArtifactBags$NameSet" ⟨"java/util/Arrays", "copyOf", "([II)[I"⟩ 21 := Or.inl (zin 387 rfl rfl)
set_option maxRecDepth 100000 in
theorem kl9_N_27 : Cond.methodLink "ArtifactBags$NameSet" 27 ⟨"java/lang/System", "arraycopy", "(Ljava/lang/Object;ILjava/lang/Object;II)V"⟩ ∈ zT := zin 370 rfl rfl
set_option maxRecDepth 100000 in
theorem kl_N_27 : zLk "ArtifactBags$NameSet" ⟨"java/lang/System", "arraycopy", "(Ljava/lang/Object;ILjava/lang/Object;II)V"⟩ 27 := Or.inl (zin 370 rfl rfl)
set_option maxRecDepth 100000 in
theorem kl9_R_3 : Cond.methodLink "ArtifactBags$Row" 3 ⟨"java/lang/Object", "<init>", "()V"⟩ ∈ zT := zin 86 rfl rfl
set_option maxRecDepth 100000 in
theorem kl_R_3 : zLk "ArtifactBags$Row" ⟨"java/lang/Object", "<init>", "()V"⟩ 3 := Or.inl (zin 86 rfl rfl)
set_option maxRecDepth 100000 in
theorem kl_R_19 : zLk "ArtifactBags$Row" ⟨"ArtifactBags", "digestAfter", "(I[BI)I"⟩ 19 := Or.inr ⟨"ArtifactBags", zinN 166 rfl rfl⟩
set_option maxRecDepth 100000 in
theorem kl9_R_23 : Cond.methodLink "ArtifactBags$Row" 23 ⟨"ArtifactBags$Row", "add", "(I)V"⟩ ∈ zT := zin 138 rfl rfl
set_option maxRecDepth 100000 in
theorem kl_R_23 : zLk "ArtifactBags$Row" ⟨"ArtifactBags$Row", "add", "(I)V"⟩ 23 := Or.inl (zin 138 rfl rfl)
set_option maxRecDepth 100000 in
theorem kl9_R_27 : Cond.methodLink "ArtifactBags$Row" 27 ⟨"ArtifactBags$Row", "addSpaceAndName", "(I)V"⟩ ∈ zT := zin 146 rfl rfl
set_option maxRecDepth 100000 in
theorem kl_R_27 : zLk "ArtifactBags$Row" ⟨"ArtifactBags$Row", "addSpaceAndName", "(I)V"⟩ 27 := Or.inl (zin 146 rfl rfl)
set_option maxRecDepth 100000 in
theorem kl9_m_1 : Cond.methodLink "ArtifactBagsModel" 1 ⟨"java/lang/Object", "<init>", "()V"⟩ ∈ zT := zin 546 rfl rfl
set_option maxRecDepth 100000 in
theorem kl_m_1 : zLk "ArtifactBagsModel" ⟨"java/lang/Object", "<init>", "()V"⟩ 1 := Or.inl (zin 546 rfl rfl)
set_option maxRecDepth 100000 in
theorem kl9_m_40 : Cond.methodLink "ArtifactBagsModel" 40 ⟨"ArtifactBagsModel", "at", "(II)I"⟩ ∈ zT := zin 615 rfl rfl
set_option maxRecDepth 100000 in
theorem kl_m_40 : zLk "ArtifactBagsModel" ⟨"ArtifactBagsModel", "at", "(II)I"⟩ 40 := Or.inl (zin 615 rfl rfl)
set_option maxRecDepth 100000 in
theorem kl9_m_54 : Cond.methodLink "ArtifactBagsModel" 54 ⟨"ArtifactBagsModel", "isCard", "(III)Z"⟩ ∈ zT := zin 655 rfl rfl
set_option maxRecDepth 100000 in
theorem kl_m_54 : zLk "ArtifactBagsModel" ⟨"ArtifactBagsModel", "isCard", "(III)Z"⟩ 54 := Or.inl (zin 655 rfl rfl)
set_option maxRecDepth 100000 in
theorem kl9_m_64 : Cond.methodLink "ArtifactBagsModel" 64 ⟨"ArtifactBagsModel", "isNumber", "(III)Z"⟩ ∈ zT := zin 659 rfl rfl
set_option maxRecDepth 100000 in
theorem kl_m_64 : zLk "ArtifactBagsModel" ⟨"ArtifactBagsModel", "isNumber", "(III)Z"⟩ 64 := Or.inl (zin 659 rfl rfl)
set_option maxRecDepth 100000 in
theorem kl9_m_67 : Cond.methodLink "ArtifactBagsModel" 67 ⟨"ArtifactBagsModel", "nameAt", "(II)I"⟩ ∈ zT := zin 666 rfl rfl
set_option maxRecDepth 100000 in
theorem kl_m_67 : zLk "ArtifactBagsModel" ⟨"ArtifactBagsModel", "nameAt", "(II)I"⟩ 67 := Or.inl (zin 666 rfl rfl)
set_option maxRecDepth 100000 in
theorem kl9_m_70 : Cond.methodLink "ArtifactBagsModel" 70 ⟨"ArtifactBagsModel", "isDigit", "(I)Z"⟩ ∈ zT := zin 663 rfl rfl
set_option maxRecDepth 100000 in
theorem kl_m_70 : zLk "ArtifactBagsModel" ⟨"ArtifactBagsModel", "isDigit", "(I)Z"⟩ 70 := Or.inl (zin 663 rfl rfl)
set_option maxRecDepth 100000 in
theorem kl9_m_77 : Cond.methodLink "ArtifactBagsModel" 77 ⟨"ArtifactBagsModel", "isParent", "(III)Z"⟩ ∈ zT := zin 670 rfl rfl
set_option maxRecDepth 100000 in
theorem kl_m_77 : zLk "ArtifactBagsModel" ⟨"ArtifactBagsModel", "isParent", "(III)Z"⟩ 77 := Or.inl (zin 670 rfl rfl)
set_option maxRecDepth 100000 in
theorem kl9_m_80 : Cond.methodLink "ArtifactBagsModel" 80 ⟨"ArtifactBagsModel", "isTag", "(III)Z"⟩ ∈ zT := zin 674 rfl rfl
set_option maxRecDepth 100000 in
theorem kl_m_80 : zLk "ArtifactBagsModel" ⟨"ArtifactBagsModel", "isTag", "(III)Z"⟩ 80 := Or.inl (zin 674 rfl rfl)
set_option maxRecDepth 100000 in
theorem kl9_m_90 : Cond.methodLink "ArtifactBagsModel" 90 ⟨"ArtifactBagsModel", "readLine", "(II)Z"⟩ ∈ zT := zin 651 rfl rfl
set_option maxRecDepth 100000 in
theorem kl_m_90 : zLk "ArtifactBagsModel" ⟨"ArtifactBagsModel", "readLine", "(II)Z"⟩ 90 := Or.inl (zin 651 rfl rfl)
set_option maxRecDepth 100000 in
theorem kl9_m_94 : Cond.methodLink "ArtifactBagsModel" 94 ⟨"ArtifactBagsModel", "digest", "(III)I"⟩ ∈ zT := zin 610 rfl rfl
set_option maxRecDepth 100000 in
theorem kl_m_94 : zLk "ArtifactBagsModel" ⟨"ArtifactBagsModel", "digest", "(III)I"⟩ 94 := Or.inl (zin 610 rfl rfl)
set_option maxRecDepth 100000 in
theorem kl9_m_98 : Cond.methodLink "ArtifactBagsModel" 98 ⟨"ArtifactBagsModel", "find", "(II)I"⟩ ∈ zT := zin 678 rfl rfl
set_option maxRecDepth 100000 in
theorem kl_m_98 : zLk "ArtifactBagsModel" ⟨"ArtifactBagsModel", "find", "(II)I"⟩ 98 := Or.inl (zin 678 rfl rfl)
set_option maxRecDepth 100000 in
theorem kl9_m_101 : Cond.methodLink "ArtifactBagsModel" 101 ⟨"ArtifactBagsModel", "sort", "(I)I"⟩ ∈ zT := zin 706 rfl rfl
set_option maxRecDepth 100000 in
theorem kl_m_101 : zLk "ArtifactBagsModel" ⟨"ArtifactBagsModel", "sort", "(I)I"⟩ 101 := Or.inl (zin 706 rfl rfl)
set_option maxRecDepth 100000 in
theorem kl9_m_105 : Cond.methodLink "ArtifactBagsModel" 105 ⟨"ArtifactBagsModel", "filesOf", "(II)I"⟩ ∈ zT := zin 647 rfl rfl
set_option maxRecDepth 100000 in
theorem kl_m_105 : zLk "ArtifactBagsModel" ⟨"ArtifactBagsModel", "filesOf", "(II)I"⟩ 105 := Or.inl (zin 647 rfl rfl)
set_option maxRecDepth 100000 in
theorem kl9_m_108 : Cond.methodLink "ArtifactBagsModel" 108 ⟨"ArtifactBagsModel", "has", "(III)Z"⟩ ∈ zT := zin 710 rfl rfl
set_option maxRecDepth 100000 in
theorem kl_m_108 : zLk "ArtifactBagsModel" ⟨"ArtifactBagsModel", "has", "(III)Z"⟩ 108 := Or.inl (zin 710 rfl rfl)
set_option maxRecDepth 100000 in
theorem kl9_m_111 : Cond.methodLink "ArtifactBagsModel" 111 ⟨"ArtifactBagsModel", "write", "(II)V"⟩ ∈ zT := zin 623 rfl rfl
set_option maxRecDepth 100000 in
theorem kl_m_111 : zLk "ArtifactBagsModel" ⟨"ArtifactBagsModel", "write", "(II)V"⟩ 111 := Or.inl (zin 623 rfl rfl)
set_option maxRecDepth 100000 in
theorem kl9_m_115 : Cond.methodLink "ArtifactBagsModel" 115 ⟨"ArtifactBagsModel", "isName", "(I)Z"⟩ ∈ zT := zin 606 rfl rfl
set_option maxRecDepth 100000 in
theorem kl_m_115 : zLk "ArtifactBagsModel" ⟨"ArtifactBagsModel", "isName", "(I)Z"⟩ 115 := Or.inl (zin 606 rfl rfl)
set_option maxRecDepth 100000 in
theorem kl9_m_118 : Cond.methodLink "ArtifactBagsModel" 118 ⟨"ArtifactBagsModel", "size", "(III)I"⟩ ∈ zT := zin 603 rfl rfl
set_option maxRecDepth 100000 in
theorem kl_m_118 : zLk "ArtifactBagsModel" ⟨"ArtifactBagsModel", "size", "(III)I"⟩ 118 := Or.inl (zin 603 rfl rfl)
set_option maxRecDepth 100000 in
theorem kl9_m_121 : Cond.methodLink "ArtifactBagsModel" 121 ⟨"ArtifactBagsModel", "letterOf", "(I)I"⟩ ∈ zT := zin 620 rfl rfl
set_option maxRecDepth 100000 in
theorem kl_m_121 : zLk "ArtifactBagsModel" ⟨"ArtifactBagsModel", "letterOf", "(I)I"⟩ 121 := Or.inl (zin 620 rfl rfl)
set_option maxRecDepth 100000 in
theorem kl9_m_124 : Cond.methodLink "ArtifactBagsModel" 124 ⟨"ArtifactBagsModel", "writeName", "(II)V"⟩ ∈ zT := zin 627 rfl rfl
set_option maxRecDepth 100000 in
theorem kl_m_124 : zLk "ArtifactBagsModel" ⟨"ArtifactBagsModel", "writeName", "(II)V"⟩ 124 := Or.inl (zin 627 rfl rfl)
set_option maxRecDepth 100000 in
theorem kl9_m_129 : Cond.methodLink "ArtifactBagsModel" 129 ⟨"ArtifactBagsModel", "isRepository", "(I)Z"⟩ ∈ zT := zin 644 rfl rfl
set_option maxRecDepth 100000 in
theorem kl_m_129 : zLk "ArtifactBagsModel" ⟨"ArtifactBagsModel", "isRepository", "(I)Z"⟩ 129 := Or.inl (zin 644 rfl rfl)
set_option maxRecDepth 100000 in
theorem kl9_m_132 : Cond.methodLink "ArtifactBagsModel" 132 ⟨"ArtifactBagsModel", "hold", "(III)V"⟩ ∈ zT := zin 686 rfl rfl
set_option maxRecDepth 100000 in
theorem kl_m_132 : zLk "ArtifactBagsModel" ⟨"ArtifactBagsModel", "hold", "(III)V"⟩ 132 := Or.inl (zin 686 rfl rfl)
set_option maxRecDepth 100000 in
theorem kl9_m_139 : Cond.methodLink "ArtifactBagsModel" 139 ⟨"ArtifactBagsModel", "clustered", "(II)Z"⟩ ∈ zT := zin 702 rfl rfl
set_option maxRecDepth 100000 in
theorem kl_m_139 : zLk "ArtifactBagsModel" ⟨"ArtifactBagsModel", "clustered", "(II)Z"⟩ 139 := Or.inl (zin 702 rfl rfl)
set_option maxRecDepth 100000 in
theorem kl9_m_142 : Cond.methodLink "ArtifactBagsModel" 142 ⟨"ArtifactBagsModel", "enlist", "(I)V"⟩ ∈ zT := zin 714 rfl rfl
set_option maxRecDepth 100000 in
theorem kl_m_142 : zLk "ArtifactBagsModel" ⟨"ArtifactBagsModel", "enlist", "(I)V"⟩ 142 := Or.inl (zin 714 rfl rfl)
set_option maxRecDepth 100000 in
theorem kl9_m_146 : Cond.methodLink "ArtifactBagsModel" 146 ⟨"ArtifactBagsModel", "lack", "(II)V"⟩ ∈ zT := zin 730 rfl rfl
set_option maxRecDepth 100000 in
theorem kl_m_146 : zLk "ArtifactBagsModel" ⟨"ArtifactBagsModel", "lack", "(II)V"⟩ 146 := Or.inl (zin 730 rfl rfl)
set_option maxRecDepth 100000 in
theorem kl9_m_149 : Cond.methodLink "ArtifactBagsModel" 149 ⟨"ArtifactBagsModel", "listLoose", "(I)V"⟩ ∈ zT := zin 698 rfl rfl
set_option maxRecDepth 100000 in
theorem kl_m_149 : zLk "ArtifactBagsModel" ⟨"ArtifactBagsModel", "listLoose", "(I)V"⟩ 149 := Or.inl (zin 698 rfl rfl)
set_option maxRecDepth 100000 in
theorem kl9_m_152 : Cond.methodLink "ArtifactBagsModel" 152 ⟨"ArtifactBagsModel", "tell", "(II)V"⟩ ∈ zT := zin 722 rfl rfl
set_option maxRecDepth 100000 in
theorem kl_m_152 : zLk "ArtifactBagsModel" ⟨"ArtifactBagsModel", "tell", "(II)V"⟩ 152 := Or.inl (zin 722 rfl rfl)
set_option maxRecDepth 100000 in
theorem kl9_m_155 : Cond.methodLink "ArtifactBagsModel" 155 ⟨"ArtifactBagsModel", "listWanted", "(I)V"⟩ ∈ zT := zin 726 rfl rfl
set_option maxRecDepth 100000 in
theorem kl_m_155 : zLk "ArtifactBagsModel" ⟨"ArtifactBagsModel", "listWanted", "(I)V"⟩ 155 := Or.inl (zin 726 rfl rfl)
set_option maxRecDepth 100000 in
theorem kl9_m_158 : Cond.methodLink "ArtifactBagsModel" 158 ⟨"ArtifactBagsModel", "makeCluster", "(I)V"⟩ ∈ zT := zin 694 rfl rfl
set_option maxRecDepth 100000 in
theorem kl_m_158 : zLk "ArtifactBagsModel" ⟨"ArtifactBagsModel", "makeCluster", "(I)V"⟩ 158 := Or.inl (zin 694 rfl rfl)
set_option maxRecDepth 100000 in
theorem kl9_m_161 : Cond.methodLink "ArtifactBagsModel" 161 ⟨"ArtifactBagsModel", "message", "(II)I"⟩ ∈ zT := zin 718 rfl rfl
set_option maxRecDepth 100000 in
theorem kl_m_161 : zLk "ArtifactBagsModel" ⟨"ArtifactBagsModel", "message", "(II)I"⟩ 161 := Or.inl (zin 718 rfl rfl)
set_option maxRecDepth 100000 in
theorem kl9_m_164 : Cond.methodLink "ArtifactBagsModel" 164 ⟨"ArtifactBagsModel", "isCheckIn", "(II)Z"⟩ ∈ zT := zin 762 rfl rfl
set_option maxRecDepth 100000 in
theorem kl_m_164 : zLk "ArtifactBagsModel" ⟨"ArtifactBagsModel", "isCheckIn", "(II)Z"⟩ 164 := Or.inl (zin 762 rfl rfl)
set_option maxRecDepth 100000 in
theorem kl9_m_167 : Cond.methodLink "ArtifactBagsModel" 167 ⟨"ArtifactBagsModel", "timeOf", "(I)I"⟩ ∈ zT := zin 770 rfl rfl
set_option maxRecDepth 100000 in
theorem kl_m_167 : zLk "ArtifactBagsModel" ⟨"ArtifactBagsModel", "timeOf", "(I)I"⟩ 167 := Or.inl (zin 770 rfl rfl)
set_option maxRecDepth 100000 in
theorem kl9_m_170 : Cond.methodLink "ArtifactBagsModel" 170 ⟨"ArtifactBagsModel", "children", "(II)I"⟩ ∈ zT := zin 782 rfl rfl
set_option maxRecDepth 100000 in
theorem kl_m_170 : zLk "ArtifactBagsModel" ⟨"ArtifactBagsModel", "children", "(II)I"⟩ 170 := Or.inl (zin 782 rfl rfl)
set_option maxRecDepth 100000 in
theorem kl9_m_173 : Cond.methodLink "ArtifactBagsModel" 173 ⟨"ArtifactBagsModel", "signOf", "(III)I"⟩ ∈ zT := zin 787 rfl rfl
set_option maxRecDepth 100000 in
theorem kl_m_173 : zLk "ArtifactBagsModel" ⟨"ArtifactBagsModel", "signOf", "(III)I"⟩ 173 := Or.inl (zin 787 rfl rfl)
set_option maxRecDepth 100000 in
theorem kl9_m_176 : Cond.methodLink "ArtifactBagsModel" 176 ⟨"ArtifactBagsModel", "checkIns", "(I)I"⟩ ∈ zT := zin 799 rfl rfl
set_option maxRecDepth 100000 in
theorem kl_m_176 : zLk "ArtifactBagsModel" ⟨"ArtifactBagsModel", "checkIns", "(I)I"⟩ 176 := Or.inl (zin 799 rfl rfl)
set_option maxRecDepth 100000 in
theorem kl9_J_150 : Cond.methodLink "java/util/Arrays" 150 ⟨"java/lang/System", "arraycopy", "(Ljava/lang/Object;ILjava/lang/Object;II)V"⟩ ∈ zT := zin 285 rfl rfl
set_option maxRecDepth 100000 in
theorem kl_J_150 : zLk "java/util/Arrays" ⟨"java/lang/System", "arraycopy", "(Ljava/lang/Object;ILjava/lang/Object;II)V"⟩ 150 := Or.inl (zin 285 rfl rfl)
set_option maxRecDepth 100000 in
theorem kl9_J_304 : Cond.methodLink "java/util/Arrays" 304 ⟨"java/lang/Math", "min", "(II)I"⟩ ∈ zT := zin 282 rfl rfl
set_option maxRecDepth 100000 in
theorem kl_J_304 : zLk "java/util/Arrays" ⟨"java/lang/Math", "min", "(II)I"⟩ 304 := Or.inl (zin 282 rfl rfl)
set_option maxRecDepth 100000 in
theorem kl9_J_310 : Cond.methodLink "java/util/Arrays" 310 ⟨"[B", "clone", "()Ljava/lang/Object;"⟩ ∈ zT := zin 275 rfl rfl
set_option maxRecDepth 100000 in
theorem kl_J_310 : zLk "java/util/Arrays" ⟨"[B", "clone", "()Ljava/lang/Object;"⟩ 310 := Or.inl (zin 275 rfl rfl)
set_option maxRecDepth 100000 in
theorem kl9_J_316 : Cond.methodLink "java/util/Arrays" 316 ⟨"[I", "clone", "()Ljava/lang/Object;"⟩ ∈ zT := zin 390 rfl rfl
set_option maxRecDepth 100000 in
theorem kl_J_316 : zLk "java/util/Arrays" ⟨"[I", "clone", "()Ljava/lang/Object;"⟩ 316 := Or.inl (zin 390 rfl rfl)
set_option maxRecDepth 100000 in
theorem nw_B_7 : zNew "ArtifactBags" 7 3 6 [.null, .int 0, .null, .null, .null, .null] := ⟨"ArtifactBags$Bag", zF_G, zt_G, zc_G, zin 20 rfl rfl, zin 21 rfl rfl, zin 2 rfl rfl, (by decide +kernel)⟩
set_option maxRecDepth 100000 in
theorem cl_B_7 : Cond.classLink "ArtifactBags" 7 "ArtifactBags$Bag" ∈ zT := zin 20 rfl rfl
set_option maxRecDepth 100000 in
theorem nw_B_19 : zNew "ArtifactBags" 19 7 2 [.null, .int 0] := ⟨"ArtifactBags$Row", zF_R, zt_R, zc_R, zin 81 rfl rfl, zin 82 rfl rfl, zin 5 rfl rfl, (by decide +kernel)⟩
set_option maxRecDepth 100000 in
theorem cl_B_19 : Cond.classLink "ArtifactBags" 19 "ArtifactBags$Row" ∈ zT := zin 81 rfl rfl
set_option maxRecDepth 100000 in
theorem nw_A_10 : zNew "ArtifactBags$Artifact" 10 2 6 [.null, .int 0, .int 0, .null, .int 0, .int 0] := ⟨"ArtifactBags$Artifact", zF_A, zt_A, zc_A, zin 314 rfl rfl, zin 315 rfl rfl, zin 8 rfl rfl, (by decide +kernel)⟩
set_option maxRecDepth 100000 in
theorem cl_A_10 : Cond.classLink "ArtifactBags$Artifact" 10 "ArtifactBags$Artifact" ∈ zT := zin 314 rfl rfl
set_option maxRecDepth 100000 in
theorem nw_A_64 : zNew "ArtifactBags$Artifact" 64 4 5 [.int 0, .int 0, .int 0, .int 0, .int 0] := ⟨"ArtifactBags$Card", zF_C, zt_C, zc_C, zin 291 rfl rfl, zin 204 rfl rfl, zin 7 rfl rfl, (by decide +kernel)⟩
set_option maxRecDepth 100000 in
theorem cl_A_64 : Cond.classLink "ArtifactBags$Artifact" 64 "ArtifactBags$Card" ∈ zT := zin 291 rfl rfl
set_option maxRecDepth 100000 in
theorem nw_G_9 : zNew "ArtifactBags$Bag" 9 2 6 [.null, .int 0, .int 0, .null, .int 0, .int 0] := ⟨"ArtifactBags$Artifact", zF_A, zt_A, zc_A, zin 26 rfl rfl, zin 315 rfl rfl, zin 8 rfl rfl, (by decide +kernel)⟩
set_option maxRecDepth 100000 in
theorem cl_G_9 : Cond.classLink "ArtifactBags$Bag" 9 "ArtifactBags$Artifact" ∈ zT := zin 26 rfl rfl
set_option maxRecDepth 100000 in
theorem nw_G_21 : zNew "ArtifactBags$Bag" 21 5 2 [.null, .int 0] := ⟨"ArtifactBags$History", zF_H, zt_H, zc_H, zin 28 rfl rfl, zin 29 rfl rfl, zin 3 rfl rfl, (by decide +kernel)⟩
set_option maxRecDepth 100000 in
theorem cl_G_21 : Cond.classLink "ArtifactBags$Bag" 21 "ArtifactBags$History" ∈ zT := zin 28 rfl rfl
set_option maxRecDepth 100000 in
theorem nw_G_28 : zNew "ArtifactBags$Bag" 28 6 2 [.null, .int 0] := ⟨"ArtifactBags$NameSet", zF_N, zt_N, zc_N, zin 43 rfl rfl, zin 44 rfl rfl, zin 4 rfl rfl, (by decide +kernel)⟩
set_option maxRecDepth 100000 in
theorem cl_G_28 : Cond.classLink "ArtifactBags$Bag" 28 "ArtifactBags$NameSet" ∈ zT := zin 43 rfl rfl
set_option maxRecDepth 100000 in
theorem nw_C_10 : zNew "ArtifactBags$Card" 10 4 5 [.int 0, .int 0, .int 0, .int 0, .int 0] := ⟨"ArtifactBags$Card", zF_C, zt_C, zc_C, zin 203 rfl rfl, zin 204 rfl rfl, zin 7 rfl rfl, (by decide +kernel)⟩
set_option maxRecDepth 100000 in
theorem cl_C_10 : Cond.classLink "ArtifactBags$Card" 10 "ArtifactBags$Card" ∈ zT := zin 203 rfl rfl
set_option maxRecDepth 100000 in
theorem nw_H_9 : zNew "ArtifactBags$History" 9 2 6 [.null, .int 0, .int 0, .null, .int 0, .int 0] := ⟨"ArtifactBags$Artifact", zF_A, zt_A, zc_A, zin 34 rfl rfl, zin 315 rfl rfl, zin 8 rfl rfl, (by decide +kernel)⟩
set_option maxRecDepth 100000 in
theorem cl_H_9 : Cond.classLink "ArtifactBags$History" 9 "ArtifactBags$Artifact" ∈ zT := zin 34 rfl rfl
set_option maxRecDepth 100000 in
theorem cl_J_311 : Cond.classLink "java/util/Arrays" 311 "[B" ∈ zT := zin 281 rfl rfl
set_option maxRecDepth 100000 in
theorem cl_J_317 : Cond.classLink "java/util/Arrays" 317 "[I" ∈ zT := zin 394 rfl rfl
set_option maxRecDepth 100000 in
theorem ct_B_166 : Jvm.Cond.constant "ArtifactBags" 166 (nI 16777215) ∈ zT := zin 125 rfl rfl
set_option maxRecDepth 100000 in
theorem ct_B_186 : Jvm.Cond.constantLong "ArtifactBags" 186 (lN 257) ∈ zT := zin 169 rfl rfl
set_option maxRecDepth 100000 in
theorem ct_B_188 : Jvm.Cond.constantLong "ArtifactBags" 188 (lN 16777213) ∈ zT := zin 170 rfl rfl
set_option maxRecDepth 100000 in
theorem ct_m_38 : Jvm.Cond.constantLong "ArtifactBagsModel" 38 (lN 257) ∈ zT := zin 614 rfl rfl
set_option maxRecDepth 100000 in
theorem ct_m_44 : Jvm.Cond.constantLong "ArtifactBagsModel" 44 (lN 16777213) ∈ zT := zin 619 rfl rfl
set_option maxRecDepth 100000 in
theorem ct_m_46 : Jvm.Cond.constant "ArtifactBagsModel" 46 (nI 16777215) ∈ zT := zin 609 rfl rfl
set_option maxRecDepth 100000 in
theorem ct_m_127 : Jvm.Cond.constantLong "ArtifactBagsModel" 127 (lN 255) ∈ zT := zin 635 rfl rfl
set_option maxRecDepth 100000 in
theorem ac_int : Cond.arrayClass .int ∈ zT := zin 57 rfl rfl
set_option maxRecDepth 100000 in
theorem ac_byte : Cond.arrayClass .byte ∈ zT := zin 98 rfl rfl
set_option maxRecDepth 100000 in
theorem oi_i : Cond.instanceMethod Lib.objectInit ∈ zT := zin 18 rfl rfl
set_option maxRecDepth 100000 in
theorem oi_c : Cond.code Lib.objectInit ⟨#[0xb1]⟩ 1 none ∈ zT := zin 19 rfl rfl
set_option maxRecDepth 100000 in
theorem cp_n : Cond.native arraycopyName ∈ zT := zin 287 rfl rfl
set_option maxRecDepth 100000 in
theorem cp_s : Cond.static arraycopyName ∈ zT := zin 286 rfl rfl
set_option maxRecDepth 100000 in
theorem cp_i : Cond.initialized "java/lang/System" ∈ zT := zin 11 rfl rfl
