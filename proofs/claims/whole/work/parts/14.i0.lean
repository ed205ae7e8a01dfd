def shKl : List (Nat × Ent) := [(100, (0, 11, [1, 1, 0, 1, 0, 1, 1, 0, 1, 1, 1, 1])), (101, (0, 4, [1, 1, 1, 1, 1, 0, 0, 0])), (102, (1, 48, [])), (103, (1, 48, [])), (104, (1, 48, [])), (105, (1, 4, [])), (106, (1, 10, [])), (107, (0, 4, [1, 1, 1, 1, 1, 0, 0, 0])), (108, (1, 48, [])), (109, (1, 48, [])), (110, (1, 48, [])), (111, (1, 4, [])), (112, (1, 10, [])), (113, (6, 10, [])), (114, (0, 5, [1, 1, 0, 0, 0, 0, 0, 0])), (115, (4, 160, [])), (116, (1, 160, [])), (117, (7, 6, [])), (118, (8, 4, [])), (120, (0, 6, [1, 0, 0])), (121, (0, 6, [1, 0, 0])), (122, (0, 6, [1, 0, 0])), (123, (0, 6, [1, 0, 0])), (124, (1, 40, [])), (125, (1, 40, [])), (126, (1, 40, [])), (127, (1, 40, [])), (128, (0, 1, [1, 1, 1, 1, 1, 1, 1, 1, 1, 1, 0, 0, 1, 0, 0, 0])), (129, (1, 6, [])), (130, (1, 10, [])), (131, (1, 10, [])), (132, (1, 10, [])), (133, (5, 10, [])), (134, (1, 4, [])), (135, (1, 4, [])), (136, (1, 48, [])), (137, (5, 200, [])), (138, (5, 200, []))]
theorem eK_100 : ((100, (0, 11, [1, 1, 0, 1, 0, 1, 1, 0, 1, 1, 1, 1])) : Nat × Ent) ∈ shKl := List.mem_of_getElem? (i := 0) rfl
theorem eK_101 : ((101, (0, 4, [1, 1, 1, 1, 1, 0, 0, 0])) : Nat × Ent) ∈ shKl := List.mem_of_getElem? (i := 1) rfl
theorem eK_102 : ((102, (1, 48, [])) : Nat × Ent) ∈ shKl := List.mem_of_getElem? (i := 2) rfl
theorem eK_103 : ((103, (1, 48, [])) : Nat × Ent) ∈ shKl := List.mem_of_getElem? (i := 3) rfl
theorem eK_104 : ((104, (1, 48, [])) : Nat × Ent) ∈ shKl := List.mem_of_getElem? (i := 4) rfl
theorem eK_105 : ((105, (1, 4, [])) : Nat × Ent) ∈ shKl := List.mem_of_getElem? (i := 5) rfl
theorem eK_106 : ((106, (1, 10, [])) : Nat × Ent) ∈ shKl := List.mem_of_getElem? (i := 6) rfl
theorem eK_107 : ((107, (0, 4, [1, 1, 1, 1, 1, 0, 0, 0])) : Nat × Ent) ∈ shKl := List.mem_of_getElem? (i := 7) rfl
theorem eK_108 : ((108, (1, 48, [])) : Nat × Ent) ∈ shKl := List.mem_of_getElem? (i := 8) rfl
theorem eK_109 : ((109, (1, 48, [])) : Nat × Ent) ∈ shKl := List.mem_of_getElem? (i := 9) rfl
theorem eK_110 : ((110, (1, 48, [])) : Nat × Ent) ∈ shKl := List.mem_of_getElem? (i := 10) rfl
theorem eK_111 : ((111, (1, 4, [])) : Nat × Ent) ∈ shKl := List.mem_of_getElem? (i := 11) rfl
theorem eK_112 : ((112, (1, 10, [])) : Nat × Ent) ∈ shKl := List.mem_of_getElem? (i := 12) rfl
theorem eK_113 : ((113, (6, 10, [])) : Nat × Ent) ∈ shKl := List.mem_of_getElem? (i := 13) rfl
theorem eK_114 : ((114, (0, 5, [1, 1, 0, 0, 0, 0, 0, 0])) : Nat × Ent) ∈ shKl := List.mem_of_getElem? (i := 14) rfl
theorem eK_115 : ((115, (4, 160, [])) : Nat × Ent) ∈ shKl := List.mem_of_getElem? (i := 15) rfl
theorem eK_116 : ((116, (1, 160, [])) : Nat × Ent) ∈ shKl := List.mem_of_getElem? (i := 16) rfl
theorem eK_117 : ((117, (7, 6, [])) : Nat × Ent) ∈ shKl := List.mem_of_getElem? (i := 17) rfl
theorem eK_118 : ((118, (8, 4, [])) : Nat × Ent) ∈ shKl := List.mem_of_getElem? (i := 18) rfl
theorem eK_120 : ((120, (0, 6, [1, 0, 0])) : Nat × Ent) ∈ shKl := List.mem_of_getElem? (i := 19) rfl
theorem eK_121 : ((121, (0, 6, [1, 0, 0])) : Nat × Ent) ∈ shKl := List.mem_of_getElem? (i := 20) rfl
theorem eK_122 : ((122, (0, 6, [1, 0, 0])) : Nat × Ent) ∈ shKl := List.mem_of_getElem? (i := 21) rfl
theorem eK_123 : ((123, (0, 6, [1, 0, 0])) : Nat × Ent) ∈ shKl := List.mem_of_getElem? (i := 22) rfl
theorem eK_124 : ((124, (1, 40, [])) : Nat × Ent) ∈ shKl := List.mem_of_getElem? (i := 23) rfl
theorem eK_125 : ((125, (1, 40, [])) : Nat × Ent) ∈ shKl := List.mem_of_getElem? (i := 24) rfl
theorem eK_126 : ((126, (1, 40, [])) : Nat × Ent) ∈ shKl := List.mem_of_getElem? (i := 25) rfl
theorem eK_127 : ((127, (1, 40, [])) : Nat × Ent) ∈ shKl := List.mem_of_getElem? (i := 26) rfl
theorem eK_128 : ((128, (0, 1, [1, 1, 1, 1, 1, 1, 1, 1, 1, 1, 0, 0, 1, 0, 0, 0])) : Nat × Ent) ∈ shKl := List.mem_of_getElem? (i := 27) rfl
theorem eK_129 : ((129, (1, 6, [])) : Nat × Ent) ∈ shKl := List.mem_of_getElem? (i := 28) rfl
theorem eK_130 : ((130, (1, 10, [])) : Nat × Ent) ∈ shKl := List.mem_of_getElem? (i := 29) rfl
theorem eK_131 : ((131, (1, 10, [])) : Nat × Ent) ∈ shKl := List.mem_of_getElem? (i := 30) rfl
theorem eK_132 : ((132, (1, 10, [])) : Nat × Ent) ∈ shKl := List.mem_of_getElem? (i := 31) rfl
theorem eK_133 : ((133, (5, 10, [])) : Nat × Ent) ∈ shKl := List.mem_of_getElem? (i := 32) rfl
theorem eK_134 : ((134, (1, 4, [])) : Nat × Ent) ∈ shKl := List.mem_of_getElem? (i := 33) rfl
theorem eK_135 : ((135, (1, 4, [])) : Nat × Ent) ∈ shKl := List.mem_of_getElem? (i := 34) rfl
theorem eK_136 : ((136, (1, 48, [])) : Nat × Ent) ∈ shKl := List.mem_of_getElem? (i := 35) rfl
theorem eK_137 : ((137, (5, 200, [])) : Nat × Ent) ∈ shKl := List.mem_of_getElem? (i := 36) rfl
theorem eK_138 : ((138, (5, 200, [])) : Nat × Ent) ∈ shKl := List.mem_of_getElem? (i := 37) rfl
theorem shK_at {sh : Nat → Ent} (h : ∀ q ∈ shKl, sh q.1 = q.2) {k : Nat} {x : Ent} (hk : (k, x) ∈ shKl) : sh k = x := h (k, x) hk
def shFin (sh : Nat → Ent) : Nat → Ent := fun b => if b = 100 then (0, 11, flMn) else if b = 101 then (0, 4, (flPc 101)) else if b = 107 then (0, 4, (flPc 107)) else if b = 114 then (0, 5, flRd) else if b = 120 then (0, 6, (flSh 120)) else if b = 121 then (0, 6, (flSh 121)) else if b = 122 then (0, 6, (flSh 122)) else if b = 123 then (0, 6, (flSh 123)) else if b = 128 then (0, 1, flCo) else sh b
def OFin (O : MemO) : Bool := decide (O 100 0 = some 101) && decide (O 100 1 = some 107) && decide (O 100 3 = some 113) && decide (O 100 5 = some 114) && decide (O 100 6 = some 117) && decide (O 100 8 = some 118) && decide (O 100 9 = some 128) && decide (O 100 10 = some 137) && decide (O 100 11 = some 138) && decide (O 101 0 = some 102) && decide (O 101 1 = some 103) && decide (O 101 2 = some 104) && decide (O 101 3 = some 105) && decide (O 101 4 = some 106) && decide (O 107 0 = some 108) && decide (O 107 1 = some 109) && decide (O 107 2 = some 110) && decide (O 107 3 = some 111) && decide (O 107 4 = some 112) && decide (O 114 0 = some 115) && decide (O 114 1 = some 116) && decide (O 120 0 = some 124) && decide (O 121 0 = some 125) && decide (O 122 0 = some 126) && decide (O 123 0 = some 127) && decide (O 128 0 = some 101) && decide (O 128 1 = some 113) && decide (O 128 2 = some 129) && decide (O 128 3 = some 130) && decide (O 128 4 = some 131) && decide (O 128 5 = some 132) && decide (O 128 6 = some 133) && decide (O 128 7 = some 134) && decide (O 128 8 = some 135) && decide (O 128 9 = some 136)
theorem OFin_i {O : MemO} (h : OFin O = true) : O 100 0 = some 101 ∧ O 100 1 = some 107 ∧ O 100 3 = some 113 ∧ O 100 5 = some 114 ∧ O 100 6 = some 117 ∧ O 100 8 = some 118 ∧ O 100 9 = some 128 ∧ O 100 10 = some 137 ∧ O 100 11 = some 138 ∧ O 101 0 = some 102 ∧ O 101 1 = some 103 ∧ O 101 2 = some 104 ∧ O 101 3 = some 105 ∧ O 101 4 = some 106 ∧ O 107 0 = some 108 ∧ O 107 1 = some 109 ∧ O 107 2 = some 110 ∧ O 107 3 = some 111 ∧ O 107 4 = some 112 ∧ O 114 0 = some 115 ∧ O 114 1 = some 116 ∧ O 120 0 = some 124 ∧ O 121 0 = some 125 ∧ O 122 0 = some 126 ∧ O 123 0 = some 127 ∧ O 128 0 = some 101 ∧ O 128 1 = some 113 ∧ O 128 2 = some 129 ∧ O 128 3 = some 130 ∧ O 128 4 = some 131 ∧ O 128 5 = some 132 ∧ O 128 6 = some 133 ∧ O 128 7 = some 134 ∧ O 128 8 = some 135 ∧ O 128 9 = some 136 := by
  unfold OFin at h
  simp only [Bool.and_eq_true, decide_eq_true_eq] at h
  obtain ⟨⟨⟨⟨⟨⟨⟨⟨⟨⟨⟨⟨⟨⟨⟨⟨⟨⟨⟨⟨⟨⟨⟨⟨⟨⟨⟨⟨⟨⟨⟨⟨⟨⟨h0, h1⟩, h2⟩, h3⟩, h4⟩, h5⟩, h6⟩, h7⟩, h8⟩, h9⟩, h10⟩, h11⟩, h12⟩, h13⟩, h14⟩, h15⟩, h16⟩, h17⟩, h18⟩, h19⟩, h20⟩, h21⟩, h22⟩, h23⟩, h24⟩, h25⟩, h26⟩, h27⟩, h28⟩, h29⟩, h30⟩, h31⟩, h32⟩, h33⟩, h34⟩ := h
  exact ⟨h0, h1, h2, h3, h4, h5, h6, h7, h8, h9, h10, h11, h12, h13, h14, h15, h16, h17, h18, h19, h20, h21, h22, h23, h24, h25, h26, h27, h28, h29, h30, h31, h32, h33, h34⟩
theorem inr_eq {ci : Nat} {a b : List Value} (h : a = b) : (Sum.inr (ci, a) : va_E) = Sum.inr (ci, b) := by rw [h]
theorem conv_in100 {sh : Nat → Ent} {ad : Nat → Nat} {cy : Nat → ClassId} {G : Mem} {L : MemL} {O : MemO} (hS : ∀ q ∈ shKl, sh q.1 = q.2) (hO : OFin O = true) : entE 100 (0, 11, flMn) ad cy G L O = entE 100 (sh 100) ad cy G L O := by
  obtain ⟨h0, h1, h2, h3, h4, h5, h6, h7, h8, h9, h10, h11, h12, h13, h14, h15, h16, h17, h18, h19, h20, h21, h22, h23, h24, h25, h26, h27, h28, h29, h30, h31, h32, h33, h34⟩ := OFin_i hO
  rw [shK_at hS eK_100, entE_o (fl := flMn) rfl, entE_o (fl := [1, 1, 0, 1, 0, 1, 1, 0, 1, 1, 1, 1]) rfl]
  refine inr_eq ?_
  simp [entF, flMn, fval, va_rf, List.mapIdx_cons, h0, h1, h2, h3, h4, h5, h6, h7, h8]
theorem conv_in101 {sh : Nat → Ent} {ad : Nat → Nat} {cy : Nat → ClassId} {G : Mem} {L : MemL} {O : MemO} (hS : ∀ q ∈ shKl, sh q.1 = q.2) (hO : OFin O = true) : entE 101 (0, 4, (flPc 101)) ad cy G L O = entE 101 (sh 101) ad cy G L O := by
  obtain ⟨h0, h1, h2, h3, h4, h5, h6, h7, h8, h9, h10, h11, h12, h13, h14, h15, h16, h17, h18, h19, h20, h21, h22, h23, h24, h25, h26, h27, h28, h29, h30, h31, h32, h33, h34⟩ := OFin_i hO
  rw [shK_at hS eK_101, entE_o (fl := (flPc 101)) rfl, entE_o (fl := [1, 1, 1, 1, 1, 0, 0, 0]) rfl]
  refine inr_eq ?_
  simp [entF, flPc, fval, va_rf, List.mapIdx_cons, h9, h10, h11, h12, h13]
theorem conv_in107 {sh : Nat → Ent} {ad : Nat → Nat} {cy : Nat → ClassId} {G : Mem} {L : MemL} {O : MemO} (hS : ∀ q ∈ shKl, sh q.1 = q.2) (hO : OFin O = true) : entE 107 (0, 4, (flPc 107)) ad cy G L O = entE 107 (sh 107) ad cy G L O := by
  obtain ⟨h0, h1, h2, h3, h4, h5, h6, h7, h8, h9, h10, h11, h12, h13, h14, h15, h16, h17, h18, h19, h20, h21, h22, h23, h24, h25, h26, h27, h28, h29, h30, h31, h32, h33, h34⟩ := OFin_i hO
  rw [shK_at hS eK_107, entE_o (fl := (flPc 107)) rfl, entE_o (fl := [1, 1, 1, 1, 1, 0, 0, 0]) rfl]
  refine inr_eq ?_
  simp [entF, flPc, fval, va_rf, List.mapIdx_cons, h14, h15, h16, h17, h18]
theorem conv_in114 {sh : Nat → Ent} {ad : Nat → Nat} {cy : Nat → ClassId} {G : Mem} {L : MemL} {O : MemO} (hS : ∀ q ∈ shKl, sh q.1 = q.2) (hO : OFin O = true) : entE 114 (0, 5, flRd) ad cy G L O = entE 114 (sh 114) ad cy G L O := by
  obtain ⟨h0, h1, h2, h3, h4, h5, h6, h7, h8, h9, h10, h11, h12, h13, h14, h15, h16, h17, h18, h19, h20, h21, h22, h23, h24, h25, h26, h27, h28, h29, h30, h31, h32, h33, h34⟩ := OFin_i hO
  rw [shK_at hS eK_114, entE_o (fl := flRd) rfl, entE_o (fl := [1, 1, 0, 0, 0, 0, 0, 0]) rfl]
  refine inr_eq ?_
  simp [entF, flRd, fval, va_rf, List.mapIdx_cons, h19, h20]
theorem conv_in120 {sh : Nat → Ent} {ad : Nat → Nat} {cy : Nat → ClassId} {G : Mem} {L : MemL} {O : MemO} (hS : ∀ q ∈ shKl, sh q.1 = q.2) (hO : OFin O = true) : entE 120 (0, 6, (flSh 120)) ad cy G L O = entE 120 (sh 120) ad cy G L O := by
  obtain ⟨h0, h1, h2, h3, h4, h5, h6, h7, h8, h9, h10, h11, h12, h13, h14, h15, h16, h17, h18, h19, h20, h21, h22, h23, h24, h25, h26, h27, h28, h29, h30, h31, h32, h33, h34⟩ := OFin_i hO
  rw [shK_at hS eK_120, entE_o (fl := (flSh 120)) rfl, entE_o (fl := [1, 0, 0]) rfl]
  refine inr_eq ?_
  simp [entF, flSh, fval, va_rf, List.mapIdx_cons, h21]
theorem conv_in121 {sh : Nat → Ent} {ad : Nat → Nat} {cy : Nat → ClassId} {G : Mem} {L : MemL} {O : MemO} (hS : ∀ q ∈ shKl, sh q.1 = q.2) (hO : OFin O = true) : entE 121 (0, 6, (flSh 121)) ad cy G L O = entE 121 (sh 121) ad cy G L O := by
  obtain ⟨h0, h1, h2, h3, h4, h5, h6, h7, h8, h9, h10, h11, h12, h13, h14, h15, h16, h17, h18, h19, h20, h21, h22, h23, h24, h25, h26, h27, h28, h29, h30, h31, h32, h33, h34⟩ := OFin_i hO
  rw [shK_at hS eK_121, entE_o (fl := (flSh 121)) rfl, entE_o (fl := [1, 0, 0]) rfl]
  refine inr_eq ?_
  simp [entF, flSh, fval, va_rf, List.mapIdx_cons, h22]
theorem conv_in122 {sh : Nat → Ent} {ad : Nat → Nat} {cy : Nat → ClassId} {G : Mem} {L : MemL} {O : MemO} (hS : ∀ q ∈ shKl, sh q.1 = q.2) (hO : OFin O = true) : entE 122 (0, 6, (flSh 122)) ad cy G L O = entE 122 (sh 122) ad cy G L O := by
  obtain ⟨h0, h1, h2, h3, h4, h5, h6, h7, h8, h9, h10, h11, h12, h13, h14, h15, h16, h17, h18, h19, h20, h21, h22, h23, h24, h25, h26, h27, h28, h29, h30, h31, h32, h33, h34⟩ := OFin_i hO
  rw [shK_at hS eK_122, entE_o (fl := (flSh 122)) rfl, entE_o (fl := [1, 0, 0]) rfl]
  refine inr_eq ?_
  simp [entF, flSh, fval, va_rf, List.mapIdx_cons, h23]
theorem conv_in123 {sh : Nat → Ent} {ad : Nat → Nat} {cy : Nat → ClassId} {G : Mem} {L : MemL} {O : MemO} (hS : ∀ q ∈ shKl, sh q.1 = q.2) (hO : OFin O = true) : entE 123 (0, 6, (flSh 123)) ad cy G L O = entE 123 (sh 123) ad cy G L O := by
  obtain ⟨h0, h1, h2, h3, h4, h5, h6, h7, h8, h9, h10, h11, h12, h13, h14, h15, h16, h17, h18, h19, h20, h21, h22, h23, h24, h25, h26, h27, h28, h29, h30, h31, h32, h33, h34⟩ := OFin_i hO
  rw [shK_at hS eK_123, entE_o (fl := (flSh 123)) rfl, entE_o (fl := [1, 0, 0]) rfl]
  refine inr_eq ?_
  simp [entF, flSh, fval, va_rf, List.mapIdx_cons, h24]
theorem conv_in128 {sh : Nat → Ent} {ad : Nat → Nat} {cy : Nat → ClassId} {G : Mem} {L : MemL} {O : MemO} (hS : ∀ q ∈ shKl, sh q.1 = q.2) (hO : OFin O = true) : entE 128 (0, 1, flCo) ad cy G L O = entE 128 (sh 128) ad cy G L O := by
  obtain ⟨h0, h1, h2, h3, h4, h5, h6, h7, h8, h9, h10, h11, h12, h13, h14, h15, h16, h17, h18, h19, h20, h21, h22, h23, h24, h25, h26, h27, h28, h29, h30, h31, h32, h33, h34⟩ := OFin_i hO
  rw [shK_at hS eK_128, entE_o (fl := flCo) rfl, entE_o (fl := [1, 1, 1, 1, 1, 1, 1, 1, 1, 1, 0, 0, 1, 0, 0, 0]) rfl]
  refine inr_eq ?_
  simp [entF, flCo, fval, va_rf, List.mapIdx_cons, h25, h26, h27, h28, h29, h30, h31, h32, h33, h34]
theorem conv_in {sh : Nat → Ent} {ad : Nat → Nat} {cy : Nat → ClassId} {G : Mem} {L : MemL} {O : MemO} (hS : ∀ q ∈ shKl, sh q.1 = q.2) (hO : OFin O = true) (k : Nat) : entE k (shFin sh k) ad cy G L O = entE k (sh k) ad cy G L O := by
  unfold shFin
  by_cases q100 : k = 100
  · subst q100
    rw [if_pos rfl]
    exact conv_in100 hS hO
  rw [if_neg q100]
  by_cases q101 : k = 101
  · subst q101
    rw [if_pos rfl]
    exact conv_in101 hS hO
  rw [if_neg q101]
  by_cases q107 : k = 107
  · subst q107
    rw [if_pos rfl]
    exact conv_in107 hS hO
  rw [if_neg q107]
  by_cases q114 : k = 114
  · subst q114
    rw [if_pos rfl]
    exact conv_in114 hS hO
  rw [if_neg q114]
  by_cases q120 : k = 120
  · subst q120
    rw [if_pos rfl]
    exact conv_in120 hS hO
  rw [if_neg q120]
  by_cases q121 : k = 121
  · subst q121
    rw [if_pos rfl]
    exact conv_in121 hS hO
  rw [if_neg q121]
  by_cases q122 : k = 122
  · subst q122
    rw [if_pos rfl]
    exact conv_in122 hS hO
  rw [if_neg q122]
  by_cases q123 : k = 123
  · subst q123
    rw [if_pos rfl]
    exact conv_in123 hS hO
  rw [if_neg q123]
  by_cases q128 : k = 128
  · subst q128
    rw [if_pos rfl]
    exact conv_in128 hS hO
  rw [if_neg q128]
def S00 : Nat → Nat := fun _ => 77
theorem shFin_n {sh : Nat → Ent} {b : Nat} (h : 200 ≤ b) : shFin sh b = sh b := by
  unfold shFin
  rw [if_neg (by omega), if_neg (by omega), if_neg (by omega), if_neg (by omega), if_neg (by omega), if_neg (by omega), if_neg (by omega), if_neg (by omega), if_neg (by omega)]
theorem shFin_C {sh : Nat → Ent} (hS : ∀ q ∈ shKl, sh q.1 = q.2) : ∀ q ∈ shC, shFin sh q.1 = q.2 := by
  have h1 : ∀ q ∈ shC, (q.1 = 100 ∨ q.1 = 101 ∨ q.1 = 107 ∨ q.1 = 114 ∨ q.1 = 120 ∨ q.1 = 121 ∨ q.1 = 122 ∨ q.1 = 123 ∨ q.1 = 128) ∧ q.2 = shFin (fun _ => (0, 0, [])) q.1 ∨ (¬ q.1 = 100 ∧ ¬ q.1 = 101 ∧ ¬ q.1 = 107 ∧ ¬ q.1 = 114 ∧ ¬ q.1 = 120 ∧ ¬ q.1 = 121 ∧ ¬ q.1 = 122 ∧ ¬ q.1 = 123 ∧ ¬ q.1 = 128) ∧ q ∈ shKl := by decide
  intro q hq
  rcases h1 q hq with ⟨h2, h3⟩ | ⟨⟨a1, a2, a3, a4, a5, a6, a7, a8, a9⟩, h3⟩
  · rw [h3]
    rcases h2 with e | e | e | e | e | e | e | e | e <;> rw [e] <;> rfl
  · unfold shFin
    rw [if_neg a1, if_neg a2, if_neg a3, if_neg a4, if_neg a5, if_neg a6, if_neg a7, if_neg a8, if_neg a9]
    exact hS q h3
theorem HC_in {sh : Nat → Ent} {K : List Nat} (hS : ∀ q ∈ shKl, sh q.1 = q.2) (hK : ∀ q ∈ shC, q.1 ∈ K) : HC S00 K (shFin sh) := ⟨fun q hq => ⟨hK q hq, shFin_C hS q hq⟩, (fun e he => absurd (of_decide_eq_true he).2.2 (by unfold S00; omega)), (fun e he => absurd (of_decide_eq_true he).2.2 (by unfold S00; omega))⟩
theorem Cl_in {K : List Nat} {sh : Nat → Ent} (hS : ∀ q ∈ shKl, sh q.1 = q.2) (hC : Cl K sh) (hK : ∀ q ∈ shC, q.1 ∈ K) : Cl K (shFin sh) := by
  intro j hj r hr
  by_cases hl : ∃ q ∈ shC, q.1 = j
  · obtain ⟨q, hq, e⟩ := hl
    have e2 := shFin_C hS q hq
    rw [e] at e2
    rw [e2] at hr
    have key : ∀ q ∈ shC, ∀ d ∈ q.2.2.2, d < 2 ∨ ∃ z ∈ shC, z.1 + 2 = d := by decide
    rcases key q hq (r + 2) hr with h1 | ⟨z, hz, h1⟩
    · omega
    · have h2 : z.1 = r := by omega
      rw [← h2]
      exact hK z hz
  · have key : ∀ b : Nat, (b = 100 ∨ b = 101 ∨ b = 107 ∨ b = 114 ∨ b = 120 ∨ b = 121 ∨ b = 122 ∨ b = 123 ∨ b = 128) → ∃ q ∈ shC, q.1 = b := by
      intro b h
      rcases h with h | h | h | h | h | h | h | h | h <;> subst h <;> decide
    have e : shFin sh j = sh j := by
      unfold shFin
      rw [if_neg (fun h => hl (key j (Or.inl h))), if_neg (fun h => hl (key j (Or.inr (Or.inl h)))), if_neg (fun h => hl (key j (Or.inr (Or.inr (Or.inl h))))), if_neg (fun h => hl (key j (Or.inr (Or.inr (Or.inr (Or.inl h)))))), if_neg (fun h => hl (key j (Or.inr (Or.inr (Or.inr (Or.inr (Or.inl h))))))), if_neg (fun h => hl (key j (Or.inr (Or.inr (Or.inr (Or.inr (Or.inr (Or.inl h)))))))), if_neg (fun h => hl (key j (Or.inr (Or.inr (Or.inr (Or.inr (Or.inr (Or.inr (Or.inl h))))))))), if_neg (fun h => hl (key j (Or.inr (Or.inr (Or.inr (Or.inr (Or.inr (Or.inr (Or.inr (Or.inl h)))))))))), if_neg (fun h => hl (key j (Or.inr (Or.inr (Or.inr (Or.inr (Or.inr (Or.inr (Or.inr (Or.inr (h)))))))))))]
    rw [e] at hr
    exact hC j hj r hr
theorem OR_X4_init {K : List Nat} {e0 : Nat} {G : Mem} {O : MemO} {G1 : Mem} {O1 : MemO} (hOR : ORf K O) (m0 : e0 + 1 ∈ K) (m1 : e0 + 2 ∈ K) (m2 : e0 + 3 ∈ K) (m3 : e0 + 4 ∈ K) (m4 : e0 + 5 ∈ K) (h : f_X4_init e0 G O = some (G1, O1)) : ORf K O1 := by
  unfold f_X4_init at h
  simp only [bnd] at h
  replace h := (chk_i h).2
  obtain ⟨g, hg, h⟩ := bndO_i h
  cases h
  exact (((((hOR.up m0).up m1).up m2).up m3).up m4)
theorem OR_X5_init {K : List Nat} {G : Mem} {O : MemO} {G1 : Mem} {O1 : MemO} (hOR : ORf K O) (m0 : 115 ∈ K) (m1 : 116 ∈ K) (h : f_X5_init G O = some (G1, O1)) : ORf K O1 := by
  unfold f_X5_init at h
  simp only [bnd] at h
  cases h
  exact ((hOR.up m0).up m1)
theorem OR_X6_init {K : List Nat} {e0 : Nat} {G : Mem} {O : MemO} {G1 : Mem} {O1 : MemO} (hOR : ORf K O) (m0 : e0 + 4 ∈ K) (h : f_X6_init e0 G O = some (G1, O1)) : ORf K O1 := by
  unfold f_X6_init at h
  simp only [bnd] at h
  cases h
  exact (hOR.up m0)
theorem OR_X1_init {K : List Nat} {G : Mem} {L : MemL} {O : MemO} {G1 : Mem} {L1 : MemL} {O1 : MemO} (hOR : ORf K O) (m0 : 129 ∈ K) (m1 : 130 ∈ K) (m2 : 131 ∈ K) (m3 : 132 ∈ K) (m4 : 133 ∈ K) (m5 : 134 ∈ K) (m6 : 135 ∈ K) (m7 : 136 ∈ K) (m8 : 101 ∈ K) (m9 : 113 ∈ K) (h : f_X1_init G L O = some (G1, L1, O1)) : ORf K O1 := by
  unfold f_X1_init at h
  simp only [bnd] at h
  cases h
  exact ((((((((((hOR.up m0).up m1).up m2).up m3).up m4).up m5).up m6).up m7).up m8).up m9)
set_option maxRecDepth 100000 in
noncomputable def q_X11_init_143 (tx ln : Nat)  (rec : (Mem × MemL × MemO × Int32) → Option ((Nat → Nat) × Mem × MemL × MemO)) : (Mem × MemL × MemO × Int32) → Option ((Nat → Nat) × Mem × MemL × MemO) := fun (G, L, O, x1) => (if (f_J0_length_8abf5 0) ≤ x1 then bndP3 (f_X5_compiled tx ln G O) (fun G92 O93 n94 => chk (decide (n94 = 1)) (bndP (f_X11_keepText G92 O93 tx) (fun G98 O99 => bndO (f_X5_clear G98) (fun G101 => some (stx S00 tx ln, G101, L, O99))))) else bndO (f_J0_charAt_5068e 0 x1) (fun v104 => bndO (f_X5_put G v104) (fun G105 => bnd (x1 + 1) (fun x1_107 => rec (G105, L, O, x1_107)))))
set_option maxRecDepth 100000 in
noncomputable def f_X11_init (tx ln : Nat) (G : Mem) (L : MemL) (O : MemO)  : Option ((Nat → Nat) × Mem × MemL × MemO) := bnd (zr 0 G 101) (fun G1 => bnd (zr none O 101) (fun O2 => bndP (f_X4_init 101 G1 O2) (fun G5 O6 => bnd (up2 O6 100 0 (some 101)) (fun O8 => bnd (zr 0 G5 107) (fun G9 => bnd (zr none O8 107) (fun O10 => bndP (f_X4_init 107 G9 O10) (fun G13 O14 => bnd (up2 O14 100 1 (some 107)) (fun O16 => bnd (up2 G13 100 2 (-1)) (fun G17 => bnd (zr none O16 113) (fun O18 => bnd (up2 O18 100 3 (some 113)) (fun O20 => bnd (up2 G17 100 4 0) (fun G21 => bnd (zr 0 G21 114) (fun G22 => bnd (zr none O20 114) (fun O23 => bndP (f_X5_init G22 O23) (fun G26 O27 => bnd (up2 O27 100 5 (some 114)) (fun O29 => bnd (zr none O29 117) (fun O30 => bnd (up2 O30 100 6 (some 117)) (fun O32 => bnd (up2 G26 100 7 0) (fun G33 => bnd (zr none O32 118) (fun O34 => bnd (up2 O34 100 8 (some 118)) (fun O36 => bnd (zr 0 G33 128) (fun G37 => bnd (zr none O36 128) (fun O38 => chk (decide ((O38 100 0) = some 101)) (chk (decide ((O38 100 3) = some 113)) (bndP3 (f_X1_init G37 L O38) (fun G43 L44 O45 => bnd (up2 O45 100 9 (some 128)) (fun O47 => bnd (zr 0 L44 137) (fun L48 => bnd (up2 O47 100 10 (some 137)) (fun O50 => bnd (zr 0 L48 138) (fun L51 => bnd (up2 O50 100 11 (some 138)) (fun O53 => chk (decide ((O53 100 8) = some 118)) (bnd (zr 0 G43 120) (fun G55 => bnd (zr none O53 120) (fun O56 => bndP (f_X6_init 120 G55 O56) (fun G59 O60 => bnd (up2 O60 118 (0 : Int32).toNatClampNeg (some 120)) (fun O62 => chk (decide ((O62 100 8) = some 118)) (bnd (zr 0 G59 121) (fun G64 => bnd (zr none O62 121) (fun O65 => bndP (f_X6_init 121 G64 O65) (fun G68 O69 => bnd (up2 O69 118 (1 : Int32).toNatClampNeg (some 121)) (fun O71 => chk (decide ((O71 100 8) = some 118)) (bnd (zr 0 G68 122) (fun G73 => bnd (zr none O71 122) (fun O74 => bndP (f_X6_init 122 G73 O74) (fun G77 O78 => bnd (up2 O78 118 (2 : Int32).toNatClampNeg (some 122)) (fun O80 => chk (decide ((O80 100 8) = some 118)) (bnd (zr 0 G77 123) (fun G82 => bnd (zr none O80 123) (fun O83 => bndP (f_X6_init 123 G82 O83) (fun G86 O87 => bnd (up2 O87 118 (3 : Int32).toNatClampNeg (some 123)) (fun O89 => chk (OFin O89) (iter (q_X11_init_143 tx ln) fuel (G86, L51, O89, 0)))))))))))))))))))))))))))))))))))))))))))))))))))))
theorem kyX11_init : Ky yX11_init cX11_init 2 none 0 := ⟨u1_27, u1_1, by decide, by decide, by decide, by decide +kernel⟩
set_option maxHeartbeats 4000000 in
set_option maxRecDepth 100000 in
theorem c_X11_init (l : Launch) (D : va_G) (K : List Nat) (sh : Nat → Ent) (ad : Nat → Nat) (cy : Nat → ClassId) (X : va_W) (B : State → Prop) (sz : Nat) (hclA : Bcl (AZ K ad X sz) B) (hCl : Cl K sh)  (adK adV : Nat → Nat) (hSBA : ∀ U : State, B U → SB adK adV (AZ K ad X sz) U) (hAO : ∀ U : State, B U → va_AO RX7 U ∧ va_AO RX9 U ∧ va_AO RX6 U) (G : Mem) (L : MemL) (O : MemO)  {Gz : Mem} {Lz : MemL} {Oz : MemO} {Sz : Nat → Nat} (hm_100 : 100 ∈ K) (hSh : ∀ q ∈ shKl, sh q.1 = q.2) (hfr : ∀ e ∈ ([101, 102, 103, 104, 105, 106, 107, 108, 109, 110, 111, 112, 113, 114, 115, 116, 117, 118, 128, 129, 130, 131, 132, 133, 134, 135, 136, 137, 138, 120, 124, 121, 125, 122, 126, 123, 127] : List Nat), e ∉ K) (tx ln : Nat) (htx0 : 2000 ≤ tx ∧ tx % 4 = 0) (hsh_tx : sh tx = (0, 9, [1, 1, 1])) (hsh_tx1 : sh (tx + 1) = (1, ln, [])) (hsh_tx2 : sh (tx + 2) = (1, 3, [])) (hsh_tx3 : sh (tx + 3) = (1, 32, [])) (hn_tx : tx ∉ K) (hn_tx1 : tx + 1 ∉ K) (hn_tx2 : tx + 2 ∉ K) (hn_tx3 : tx + 3 ∉ K) (hOR : ORf K O) (hf : f_X11_init tx ln G L O = some (Sz, Gz, Lz, Oz)) : Met l yX11_init (wsU yX11_init cX11_init 2 none) (rmX 70 41 1568) (va_Pc [.ref (ad 100)] (PZ sz D K sh ad cy X B G L O)) (QZ D K ad cy X (AZ K ad X sz) (((((((((((((((((((((((((((((((((((((((((K ++ [101]) ++ [102]) ++ [103]) ++ [104]) ++ [105]) ++ [106]) ++ [107]) ++ [108]) ++ [109]) ++ [110]) ++ [111]) ++ [112]) ++ [113]) ++ [114]) ++ [115]) ++ [116]) ++ [117]) ++ [118]) ++ [128]) ++ [129]) ++ [130]) ++ [131]) ++ [132]) ++ [133]) ++ [134]) ++ [135]) ++ [136]) ++ [137]) ++ [138]) ++ [120]) ++ [124]) ++ [121]) ++ [125]) ++ [122]) ++ [126]) ++ [123]) ++ [127]) ++ [tx + 2]) ++ [tx]) ++ [tx + 1]) ++ [tx + 3]) (fun z => z = shT (shFin sh) tx) Gz Lz Oz (fun _ => none)) 41 1568 (AZ K ad X sz) := by
  refine s_metZ (by decide) (Nat.le_of_ble_eq_true rfl) ?_
  intro p e s m args below meth c ls H locs A0 eA0 hA E hK hBs hnm hI hl
  rw [← eA0] at hclA
  rw [← eA0]
  replace hsub : ∀ b ∈ K, b ∈ K := fun b hb => hb
  rw [← eA0] at hSBA
  replace hcl : Bcl (AS K ad X) B := hclA.mono (AS_D hI.2.1)
  replace hmem : ∀ e ∈ ([100] : List Nat), e ∈ K := fun e he => by rw [List.mem_singleton.mp he]; exact hm_100
  replace had : ∀ b ∈ K, ad b = ad b := fun b hb => rfl
  have hl : lv_has ls 2 [(0, .ref (ad 100))] := hl
  have E : Cx p s m args meth c RX11 cX11_init 2 none := E
  obtain ⟨hx, hb, hr, hml, hown, hu, hlocks⟩ := id E
  rw [f_X11_init] at hf
  refine lv_aload_n hx hb dX11_init_0 rfl (lv_at hl 0 rfl) ?_
  refine s_objI (rest := []) E hl.1 u1_28 u1_29 u1_30 (by decide) (Nat.le_of_ble_eq_true rfl) dX11_init_1 ?_
  refine lv_aload_n hx hb dX11_init_4 rfl (lv_at hl 0 rfl) ?_
  obtain ⟨G1, eG1, hf⟩ := bnd_i hf
  obtain ⟨O2, eO2, hf⟩ := bnd_i hf
  refine s_newObj E inU4 tyX4_ok u1_31 u1_32 u1_2 hK hI hA rfl 101 (fr_of hCl hOR (hfr 101 (by decide))) (shK_at hSh eK_101) rfl (by decide +kernel) ⟨by decide, by decide⟩ dX11_init_5 (fun q H hI => ?_)
  rw [← eG1, ← eO2] at hI
  replace hOR := hOR.zr 101
  rw [← eO2] at hOR
  obtain ⟨K3, eK3⟩ : ∃ z, z = K ++ [101] := ⟨_, rfl⟩
  obtain ⟨ad3, ea3⟩ : ∃ z, z = adU ad 101 q := ⟨_, rfl⟩
  rw [← eK3, ← ea3] at hI
  have hin3 : ∀ b ∈ K, b ∈ K3 := fun b hb => by rw [eK3]; exact List.mem_append_left _ hb
  have hk3 : 101 ∈ K3 := by rw [eK3]; exact List.mem_append_right _ (List.mem_singleton.mpr rfl)
  have hq3 : q = ad3 101 := by rw [ea3]; exact adU_k.symm
  have had3 : ∀ b ∈ K, ad3 b = ad b := fun b hb => by rw [ea3]; exact adU_in hb (hfr 101 (by decide))
  have hr3_0 := had3 _ ((⟨hmem 100 (by decide), shK_at hSh eK_100⟩ : 100 ∈ K ∧ _)).1
  replace had : ∀ b ∈ K, ad3 b = ad b := fun b hb => (had3 b (hsub b hb)).trans (had b hb)
  replace hsub : ∀ b ∈ K, b ∈ K3 := fun b hb => hin3 b (hsub b hb)
  replace hcl : Bcl (AS K3 ad3 X) B := hclA.mono (AS_D hI.2.1)
  replace hn_tx : tx ∉ K3 := by rw [eK3]; exact nin_push hn_tx (by omega)
  replace hn_tx1 : (tx + 1) ∉ K3 := by rw [eK3]; exact nin_push hn_tx1 (by omega)
  replace hn_tx2 : (tx + 2) ∉ K3 := by rw [eK3]; exact nin_push hn_tx2 (by omega)
  replace hn_tx3 : (tx + 3) ∉ K3 := by rw [eK3]; exact nin_push hn_tx3 (by omega)
  replace hfr : ∀ e ∈ ([102, 103, 104, 105, 106, 107, 108, 109, 110, 111, 112, 113, 114, 115, 116, 117, 118, 128, 129, 130, 131, 132, 133, 134, 135, 136, 137, 138, 120, 124, 121, 125, 122, 126, 123, 127] : List Nat), e ∉ K3 := fun e he => by rw [eK3]; exact (nin_push (hfr e ((show ∀ e ∈ [102, 103, 104, 105, 106, 107, 108, 109, 110, 111, 112, 113, 114, 115, 116, 117, 118, 128, 129, 130, 131, 132, 133, 134, 135, 136, 137, 138, 120, 124, 121, 125, 122, 126, 123, 127], e ∈ [101, 102, 103, 104, 105, 106, 107, 108, 109, 110, 111, 112, 113, 114, 115, 116, 117, 118, 128, 129, 130, 131, 132, 133, 134, 135, 136, 137, 138, 120, 124, 121, 125, 122, 126, 123, 127] by decide +kernel) e he)) ((show ∀ e ∈ [102, 103, 104, 105, 106, 107, 108, 109, 110, 111, 112, 113, 114, 115, 116, 117, 118, 128, 129, 130, 131, 132, 133, 134, 135, 136, 137, 138, 120, 124, 121, 125, 122, 126, 123, 127], e ≠ 101 by decide +kernel) e he))
  have hnw3 : ∀ e ∈ ([101] : List Nat), e ∈ K3 := fun e he => by rw [eK3]; revert he; simp only [List.mem_append, List.mem_cons, List.not_mem_nil, or_false]; intro he; first | exact Or.inr he | (rcases he with h <;> simp [h])
  replace hmem : ∀ e ∈ ([101, 100] : List Nat), e ∈ K3 := fun e he => ((show ∀ e ∈ ([101, 100] : List Nat), e ∈ ([101] : List Nat) ∨ e ∈ ([100] : List Nat) by decide +kernel) e he).elim (fun h => hnw3 e h) (fun h => hin3 e (hmem e h))
  replace hCl : Cl K3 sh := by rw [eK3]; exact hCl.push (by rw [shK_at hSh eK_101]; simp)
  replace hOR : ORf K3 O2 := hOR.mono hin3
  rw [← hr3_0] at hl
  rw [hq3, ← hr3_0]
  clear ea3 hin3 hk3 hq3 had3 hr3_0 hnw3
  refine lv_dup hx hb dX11_init_8 rfl ?_
  obtain ⟨G5, O6, h4, hf⟩ := bndP_i hf
  refine s_afZ hA hI (s_runI (rest := [.ref (ad3 101), .ref (ad3 100)]) (As := []) (np := 0) E hK hI (s_B hclA hBs hI) hclA.2 (c_X4_init l D K3 sh ad3 cy X B H.size (hclA.mono (AZ_in hI hA)) hCl 101 (hmem 101 (by decide)) (shK_at hSh eK_101) (shK_at hSh eK_102) (hfr 102 (by decide)) (shK_at hSh eK_103) (hfr 103 (by decide)) (shK_at hSh eK_104) (hfr 104 (by decide)) (shK_at hSh eK_105) (hfr 105 (by decide)) (shK_at hSh eK_106) (hfr 106 (by decide)) G1 L O2 hOR h4) kyX4_init u1_33 u1_34 rfl (by decide) rfl hl.1 rfl (Nat.le_of_ble_eq_true rfl) ⟨by decide, by decide⟩ dX11_init_9) (fun ad7 sh1 H locs had7 hHy hI => ?_)
  replace hHy := hHy.symm
  subst hHy
  change W p l e _ s m _ below meth c _ _ _ _ _ (F0 m 12 ls [.ref (ad3 101), .ref (ad3 100)])
  obtain ⟨K7, eK7⟩ : ∃ z, z = (((((K3 ++ [102]) ++ [103]) ++ [104]) ++ [105]) ++ [106]) := ⟨_, rfl⟩
  rw [← eK7] at hI
  have hin7 : ∀ b ∈ K3, b ∈ K7 := fun b hb => by rw [eK7]; exact (List.mem_append_left _ (List.mem_append_left _ (List.mem_append_left _ (List.mem_append_left _ (List.mem_append_left _ hb)))))
  have hk7_0 : 102 ∈ K7 := by rw [eK7]; exact (List.mem_append_left _ (List.mem_append_left _ (List.mem_append_left _ (List.mem_append_left _ (List.mem_append_right _ (List.mem_singleton.mpr rfl))))))
  have hk7_1 : 103 ∈ K7 := by rw [eK7]; exact (List.mem_append_left _ (List.mem_append_left _ (List.mem_append_left _ (List.mem_append_right _ (List.mem_singleton.mpr rfl)))))
  have hk7_2 : 104 ∈ K7 := by rw [eK7]; exact (List.mem_append_left _ (List.mem_append_left _ (List.mem_append_right _ (List.mem_singleton.mpr rfl))))
  have hk7_3 : 105 ∈ K7 := by rw [eK7]; exact (List.mem_append_left _ (List.mem_append_right _ (List.mem_singleton.mpr rfl)))
  have hk7_4 : 106 ∈ K7 := by rw [eK7]; exact (List.mem_append_right _ (List.mem_singleton.mpr rfl))
  have hr7_0 := had7 _ ((⟨hmem 101 (by decide), shK_at hSh eK_101⟩ : 101 ∈ K3 ∧ _)).1
  have hr7_1 := had7 _ ((⟨hmem 100 (by decide), shK_at hSh eK_100⟩ : 100 ∈ K3 ∧ _)).1
  replace had : ∀ b ∈ K, ad7 b = ad b := fun b hb => (had7 b (hsub b hb)).trans (had b hb)
  replace hsub : ∀ b ∈ K, b ∈ K7 := fun b hb => hin7 b (hsub b hb)
  replace hcl : Bcl (AS K7 ad7 X) B := hclA.mono (AS_D hI.2.1)
  replace hn_tx : tx ∉ K7 := by rw [eK7]; exact (nin_push (nin_push (nin_push (nin_push (nin_push hn_tx (by omega)) (by omega)) (by omega)) (by omega)) (by omega))
  replace hn_tx1 : (tx + 1) ∉ K7 := by rw [eK7]; exact (nin_push (nin_push (nin_push (nin_push (nin_push hn_tx1 (by omega)) (by omega)) (by omega)) (by omega)) (by omega))
  replace hn_tx2 : (tx + 2) ∉ K7 := by rw [eK7]; exact (nin_push (nin_push (nin_push (nin_push (nin_push hn_tx2 (by omega)) (by omega)) (by omega)) (by omega)) (by omega))
  replace hn_tx3 : (tx + 3) ∉ K7 := by rw [eK7]; exact (nin_push (nin_push (nin_push (nin_push (nin_push hn_tx3 (by omega)) (by omega)) (by omega)) (by omega)) (by omega))
  replace hfr : ∀ e ∈ ([107, 108, 109, 110, 111, 112, 113, 114, 115, 116, 117, 118, 128, 129, 130, 131, 132, 133, 134, 135, 136, 137, 138, 120, 124, 121, 125, 122, 126, 123, 127] : List Nat), e ∉ K7 := fun e he => by rw [eK7]; exact (nin_push (nin_push (nin_push (nin_push (nin_push (hfr e ((show ∀ e ∈ [107, 108, 109, 110, 111, 112, 113, 114, 115, 116, 117, 118, 128, 129, 130, 131, 132, 133, 134, 135, 136, 137, 138, 120, 124, 121, 125, 122, 126, 123, 127], e ∈ [102, 103, 104, 105, 106, 107, 108, 109, 110, 111, 112, 113, 114, 115, 116, 117, 118, 128, 129, 130, 131, 132, 133, 134, 135, 136, 137, 138, 120, 124, 121, 125, 122, 126, 123, 127] by decide +kernel) e he)) ((show ∀ e ∈ [107, 108, 109, 110, 111, 112, 113, 114, 115, 116, 117, 118, 128, 129, 130, 131, 132, 133, 134, 135, 136, 137, 138, 120, 124, 121, 125, 122, 126, 123, 127], e ≠ 102 by decide +kernel) e he)) ((show ∀ e ∈ [107, 108, 109, 110, 111, 112, 113, 114, 115, 116, 117, 118, 128, 129, 130, 131, 132, 133, 134, 135, 136, 137, 138, 120, 124, 121, 125, 122, 126, 123, 127], e ≠ 103 by decide +kernel) e he)) ((show ∀ e ∈ [107, 108, 109, 110, 111, 112, 113, 114, 115, 116, 117, 118, 128, 129, 130, 131, 132, 133, 134, 135, 136, 137, 138, 120, 124, 121, 125, 122, 126, 123, 127], e ≠ 104 by decide +kernel) e he)) ((show ∀ e ∈ [107, 108, 109, 110, 111, 112, 113, 114, 115, 116, 117, 118, 128, 129, 130, 131, 132, 133, 134, 135, 136, 137, 138, 120, 124, 121, 125, 122, 126, 123, 127], e ≠ 105 by decide +kernel) e he)) ((show ∀ e ∈ [107, 108, 109, 110, 111, 112, 113, 114, 115, 116, 117, 118, 128, 129, 130, 131, 132, 133, 134, 135, 136, 137, 138, 120, 124, 121, 125, 122, 126, 123, 127], e ≠ 106 by decide +kernel) e he))
  have hnw7 : ∀ e ∈ ([102, 103, 104, 105, 106] : List Nat), e ∈ K7 := fun e he => by rw [eK7]; revert he; simp only [List.mem_append, List.mem_cons, List.not_mem_nil, or_false]; intro he; first | exact Or.inr he | (rcases he with h | h | h | h | h <;> simp [h])
  replace hmem : ∀ e ∈ ([102, 103, 104, 105, 106, 101, 100] : List Nat), e ∈ K7 := fun e he => ((show ∀ e ∈ ([102, 103, 104, 105, 106, 101, 100] : List Nat), e ∈ ([102, 103, 104, 105, 106] : List Nat) ∨ e ∈ ([101, 100] : List Nat) by decide +kernel) e he).elim (fun h => hnw7 e h) (fun h => hin7 e (hmem e h))
  replace hOR := OR_X4_init (hOR.mono hin7) (hmem 102 (by decide)) (hmem 103 (by decide)) (hmem 104 (by decide)) (hmem 105 (by decide)) (hmem 106 (by decide)) h4
  replace hCl : Cl K7 sh := by rw [eK7]; exact (Cl.push (Cl.push (Cl.push (Cl.push (Cl.push hCl (by rw [(shK_at hSh eK_102)]; simp)) (by rw [(shK_at hSh eK_103)]; simp)) (by rw [(shK_at hSh eK_104)]; simp)) (by rw [(shK_at hSh eK_105)]; simp)) (by rw [(shK_at hSh eK_106)]; simp))
  rw [← hr7_1] at hl
  rw [← hr7_0, ← hr7_1]
  clear hin7 hk7_0 hk7_1 hk7_2 hk7_3 hk7_4 hr7_0 hr7_1 hnw7
  obtain ⟨O8, eO8, hf⟩ := bnd_i hf
  replace hOR := hOR.up (k := 100) (j := 0) ((⟨hmem 101 (by decide), shK_at hSh eK_101⟩ : 101 ∈ K7 ∧ _)).1
  rw [← eO8] at hOR
  refine s_putOF (ty := tyX11 0) E hnm inU11 tyX11_ok nmX11 hK hI (⟨hmem 100 (by decide), shK_at hSh eK_100⟩ : 100 ∈ K7 ∧ _) rfl 0 (by decide) u2_175 (fun _ h => h) rfl rfl rfl (tyX11_ok 0 (by decide)) rfl rfl eO8 dX11_init_12 (fun H locs hI => ?_)
  refine lv_aload_n hx hb dX11_init_15 rfl (lv_at hl 0 rfl) ?_
  obtain ⟨G9, eG9, hf⟩ := bnd_i hf
  obtain ⟨O10, eO10, hf⟩ := bnd_i hf
  refine s_newObj E inU4 tyX4_ok u1_31 u1_32 u1_2 hK hI hA rfl 107 (fr_of hCl hOR (hfr 107 (by decide))) (shK_at hSh eK_107) rfl (by decide +kernel) ⟨by decide, by decide⟩ dX11_init_16 (fun q H hI => ?_)
  rw [← eG9, ← eO10] at hI
  replace hOR := hOR.zr 107
  rw [← eO10] at hOR
  obtain ⟨K11, eK11⟩ : ∃ z, z = K7 ++ [107] := ⟨_, rfl⟩
  obtain ⟨ad11, ea11⟩ : ∃ z, z = adU ad7 107 q := ⟨_, rfl⟩
  rw [← eK11, ← ea11] at hI
  have hin11 : ∀ b ∈ K7, b ∈ K11 := fun b hb => by rw [eK11]; exact List.mem_append_left _ hb
  have hk11 : 107 ∈ K11 := by rw [eK11]; exact List.mem_append_right _ (List.mem_singleton.mpr rfl)
  have hq11 : q = ad11 107 := by rw [ea11]; exact adU_k.symm
  have had11 : ∀ b ∈ K7, ad11 b = ad7 b := fun b hb => by rw [ea11]; exact adU_in hb (hfr 107 (by decide))
  have hr11_0 := had11 _ ((⟨hmem 100 (by decide), shK_at hSh eK_100⟩ : 100 ∈ K7 ∧ _)).1
  replace had : ∀ b ∈ K, ad11 b = ad b := fun b hb => (had11 b (hsub b hb)).trans (had b hb)
  replace hsub : ∀ b ∈ K, b ∈ K11 := fun b hb => hin11 b (hsub b hb)
  replace hcl : Bcl (AS K11 ad11 X) B := hclA.mono (AS_D hI.2.1)
  replace hn_tx : tx ∉ K11 := by rw [eK11]; exact nin_push hn_tx (by omega)
  replace hn_tx1 : (tx + 1) ∉ K11 := by rw [eK11]; exact nin_push hn_tx1 (by omega)
  replace hn_tx2 : (tx + 2) ∉ K11 := by rw [eK11]; exact nin_push hn_tx2 (by omega)
  replace hn_tx3 : (tx + 3) ∉ K11 := by rw [eK11]; exact nin_push hn_tx3 (by omega)
  replace hfr : ∀ e ∈ ([108, 109, 110, 111, 112, 113, 114, 115, 116, 117, 118, 128, 129, 130, 131, 132, 133, 134, 135, 136, 137, 138, 120, 124, 121, 125, 122, 126, 123, 127] : List Nat), e ∉ K11 := fun e he => by rw [eK11]; exact (nin_push (hfr e ((show ∀ e ∈ [108, 109, 110, 111, 112, 113, 114, 115, 116, 117, 118, 128, 129, 130, 131, 132, 133, 134, 135, 136, 137, 138, 120, 124, 121, 125, 122, 126, 123, 127], e ∈ [107, 108, 109, 110, 111, 112, 113, 114, 115, 116, 117, 118, 128, 129, 130, 131, 132, 133, 134, 135, 136, 137, 138, 120, 124, 121, 125, 122, 126, 123, 127] by decide +kernel) e he)) ((show ∀ e ∈ [108, 109, 110, 111, 112, 113, 114, 115, 116, 117, 118, 128, 129, 130, 131, 132, 133, 134, 135, 136, 137, 138, 120, 124, 121, 125, 122, 126, 123, 127], e ≠ 107 by decide +kernel) e he))
  have hnw11 : ∀ e ∈ ([107] : List Nat), e ∈ K11 := fun e he => by rw [eK11]; revert he; simp only [List.mem_append, List.mem_cons, List.not_mem_nil, or_false]; intro he; first | exact Or.inr he | (rcases he with h <;> simp [h])
  replace hmem : ∀ e ∈ ([107, 102, 103, 104, 105, 106, 101, 100] : List Nat), e ∈ K11 := fun e he => ((show ∀ e ∈ ([107, 102, 103, 104, 105, 106, 101, 100] : List Nat), e ∈ ([107] : List Nat) ∨ e ∈ ([102, 103, 104, 105, 106, 101, 100] : List Nat) by decide +kernel) e he).elim (fun h => hnw11 e h) (fun h => hin11 e (hmem e h))
  replace hCl : Cl K11 sh := by rw [eK11]; exact hCl.push (by rw [shK_at hSh eK_107]; simp)
  replace hOR : ORf K11 O10 := hOR.mono hin11
  rw [← hr11_0] at hl
  rw [hq11, ← hr11_0]
  clear ea11 hin11 hk11 hq11 had11 hr11_0 hnw11
  refine lv_dup hx hb dX11_init_19 rfl ?_
  obtain ⟨G13, O14, h12, hf⟩ := bndP_i hf
  refine s_afZ hA hI (s_runI (rest := [.ref (ad11 107), .ref (ad11 100)]) (As := []) (np := 0) E hK hI (s_B hclA hBs hI) hclA.2 (c_X4_init l D K11 sh ad11 cy X B H.size (hclA.mono (AZ_in hI hA)) hCl 107 (hmem 107 (by decide)) (shK_at hSh eK_107) (shK_at hSh eK_108) (hfr 108 (by decide)) (shK_at hSh eK_109) (hfr 109 (by decide)) (shK_at hSh eK_110) (hfr 110 (by decide)) (shK_at hSh eK_111) (hfr 111 (by decide)) (shK_at hSh eK_112) (hfr 112 (by decide)) G9 L O10 hOR h12) kyX4_init u1_33 u1_34 rfl (by decide) rfl hl.1 rfl (Nat.le_of_ble_eq_true rfl) ⟨by decide, by decide⟩ dX11_init_20) (fun ad15 sh1 H locs had15 hHy hI => ?_)
  replace hHy := hHy.symm
  subst hHy
  change W p l e _ s m _ below meth c _ _ _ _ _ (F0 m 23 ls [.ref (ad11 107), .ref (ad11 100)])
  obtain ⟨K15, eK15⟩ : ∃ z, z = (((((K11 ++ [108]) ++ [109]) ++ [110]) ++ [111]) ++ [112]) := ⟨_, rfl⟩
  rw [← eK15] at hI
  have hin15 : ∀ b ∈ K11, b ∈ K15 := fun b hb => by rw [eK15]; exact (List.mem_append_left _ (List.mem_append_left _ (List.mem_append_left _ (List.mem_append_left _ (List.mem_append_left _ hb)))))
  have hk15_0 : 108 ∈ K15 := by rw [eK15]; exact (List.mem_append_left _ (List.mem_append_left _ (List.mem_append_left _ (List.mem_append_left _ (List.mem_append_right _ (List.mem_singleton.mpr rfl))))))
  have hk15_1 : 109 ∈ K15 := by rw [eK15]; exact (List.mem_append_left _ (List.mem_append_left _ (List.mem_append_left _ (List.mem_append_right _ (List.mem_singleton.mpr rfl)))))
  have hk15_2 : 110 ∈ K15 := by rw [eK15]; exact (List.mem_append_left _ (List.mem_append_left _ (List.mem_append_right _ (List.mem_singleton.mpr rfl))))
  have hk15_3 : 111 ∈ K15 := by rw [eK15]; exact (List.mem_append_left _ (List.mem_append_right _ (List.mem_singleton.mpr rfl)))
  have hk15_4 : 112 ∈ K15 := by rw [eK15]; exact (List.mem_append_right _ (List.mem_singleton.mpr rfl))
  have hr15_0 := had15 _ ((⟨hmem 107 (by decide), shK_at hSh eK_107⟩ : 107 ∈ K11 ∧ _)).1
  have hr15_1 := had15 _ ((⟨hmem 100 (by decide), shK_at hSh eK_100⟩ : 100 ∈ K11 ∧ _)).1
  replace had : ∀ b ∈ K, ad15 b = ad b := fun b hb => (had15 b (hsub b hb)).trans (had b hb)
  replace hsub : ∀ b ∈ K, b ∈ K15 := fun b hb => hin15 b (hsub b hb)
  replace hcl : Bcl (AS K15 ad15 X) B := hclA.mono (AS_D hI.2.1)
  replace hn_tx : tx ∉ K15 := by rw [eK15]; exact (nin_push (nin_push (nin_push (nin_push (nin_push hn_tx (by omega)) (by omega)) (by omega)) (by omega)) (by omega))
  replace hn_tx1 : (tx + 1) ∉ K15 := by rw [eK15]; exact (nin_push (nin_push (nin_push (nin_push (nin_push hn_tx1 (by omega)) (by omega)) (by omega)) (by omega)) (by omega))
  replace hn_tx2 : (tx + 2) ∉ K15 := by rw [eK15]; exact (nin_push (nin_push (nin_push (nin_push (nin_push hn_tx2 (by omega)) (by omega)) (by omega)) (by omega)) (by omega))
  replace hn_tx3 : (tx + 3) ∉ K15 := by rw [eK15]; exact (nin_push (nin_push (nin_push (nin_push (nin_push hn_tx3 (by omega)) (by omega)) (by omega)) (by omega)) (by omega))
  replace hfr : ∀ e ∈ ([113, 114, 115, 116, 117, 118, 128, 129, 130, 131, 132, 133, 134, 135, 136, 137, 138, 120, 124, 121, 125, 122, 126, 123, 127] : List Nat), e ∉ K15 := fun e he => by rw [eK15]; exact (nin_push (nin_push (nin_push (nin_push (nin_push (hfr e ((show ∀ e ∈ [113, 114, 115, 116, 117, 118, 128, 129, 130, 131, 132, 133, 134, 135, 136, 137, 138, 120, 124, 121, 125, 122, 126, 123, 127], e ∈ [108, 109, 110, 111, 112, 113, 114, 115, 116, 117, 118, 128, 129, 130, 131, 132, 133, 134, 135, 136, 137, 138, 120, 124, 121, 125, 122, 126, 123, 127] by decide +kernel) e he)) ((show ∀ e ∈ [113, 114, 115, 116, 117, 118, 128, 129, 130, 131, 132, 133, 134, 135, 136, 137, 138, 120, 124, 121, 125, 122, 126, 123, 127], e ≠ 108 by decide +kernel) e he)) ((show ∀ e ∈ [113, 114, 115, 116, 117, 118, 128, 129, 130, 131, 132, 133, 134, 135, 136, 137, 138, 120, 124, 121, 125, 122, 126, 123, 127], e ≠ 109 by decide +kernel) e he)) ((show ∀ e ∈ [113, 114, 115, 116, 117, 118, 128, 129, 130, 131, 132, 133, 134, 135, 136, 137, 138, 120, 124, 121, 125, 122, 126, 123, 127], e ≠ 110 by decide +kernel) e he)) ((show ∀ e ∈ [113, 114, 115, 116, 117, 118, 128, 129, 130, 131, 132, 133, 134, 135, 136, 137, 138, 120, 124, 121, 125, 122, 126, 123, 127], e ≠ 111 by decide +kernel) e he)) ((show ∀ e ∈ [113, 114, 115, 116, 117, 118, 128, 129, 130, 131, 132, 133, 134, 135, 136, 137, 138, 120, 124, 121, 125, 122, 126, 123, 127], e ≠ 112 by decide +kernel) e he))
  have hnw15 : ∀ e ∈ ([108, 109, 110, 111, 112] : List Nat), e ∈ K15 := fun e he => by rw [eK15]; revert he; simp only [List.mem_append, List.mem_cons, List.not_mem_nil, or_false]; intro he; first | exact Or.inr he | (rcases he with h | h | h | h | h <;> simp [h])
  replace hmem : ∀ e ∈ ([108, 109, 110, 111, 112, 107, 102, 103, 104, 105, 106, 101, 100] : List Nat), e ∈ K15 := fun e he => ((show ∀ e ∈ ([108, 109, 110, 111, 112, 107, 102, 103, 104, 105, 106, 101, 100] : List Nat), e ∈ ([108, 109, 110, 111, 112] : List Nat) ∨ e ∈ ([107, 102, 103, 104, 105, 106, 101, 100] : List Nat) by decide +kernel) e he).elim (fun h => hnw15 e h) (fun h => hin15 e (hmem e h))
  replace hOR := OR_X4_init (hOR.mono hin15) (hmem 108 (by decide)) (hmem 109 (by decide)) (hmem 110 (by decide)) (hmem 111 (by decide)) (hmem 112 (by decide)) h12
  replace hCl : Cl K15 sh := by rw [eK15]; exact (Cl.push (Cl.push (Cl.push (Cl.push (Cl.push hCl (by rw [(shK_at hSh eK_108)]; simp)) (by rw [(shK_at hSh eK_109)]; simp)) (by rw [(shK_at hSh eK_110)]; simp)) (by rw [(shK_at hSh eK_111)]; simp)) (by rw [(shK_at hSh eK_112)]; simp))
  rw [← hr15_1] at hl
  rw [← hr15_0, ← hr15_1]
  clear hin15 hk15_0 hk15_1 hk15_2 hk15_3 hk15_4 hr15_0 hr15_1 hnw15
  obtain ⟨O16, eO16, hf⟩ := bnd_i hf
  replace hOR := hOR.up (k := 100) (j := 1) ((⟨hmem 107 (by decide), shK_at hSh eK_107⟩ : 107 ∈ K15 ∧ _)).1
  rw [← eO16] at hOR
  refine s_putOF (ty := tyX11 1) E hnm inU11 tyX11_ok nmX11 hK hI (⟨hmem 100 (by decide), shK_at hSh eK_100⟩ : 100 ∈ K15 ∧ _) rfl 1 (by decide) u2_176 (fun _ h => h) rfl rfl rfl (tyX11_ok 1 (by decide)) rfl rfl eO16 dX11_init_23 (fun H locs hI => ?_)
  refine lv_aload_n hx hb dX11_init_26 rfl (lv_at hl 0 rfl) ?_
  refine lv_iconst (v := (-1)) hx hb dX11_init_27 (by decide) ?_
  obtain ⟨G17, eG17, hf⟩ := bnd_i hf
  refine s_put (ty := .int) hx hb hu inU11 tyX11_ok nmX11 hown hK hI (⟨hmem 100 (by decide), shK_at hSh eK_100⟩ : 100 ∈ K15 ∧ _) rfl 2 (by decide) u2_177 (fun _ h => h) rfl rfl (tyX11_ok 2 (by decide)) rfl rfl eG17 dX11_init_28 (fun H locs hI => ?_)
  refine lv_aload_n hx hb dX11_init_31 rfl (lv_at hl 0 rfl) ?_
  refine lv_bipush (v := 10) hx hb dX11_init_32 (by decide) ?_
  obtain ⟨O18, eO18, hf⟩ := bnd_i hf
  refine s_newR (t := 6) (t0 := 5) E (by decide) rfl u1_81 ((hAO s hBs).1) hK hI hA 113 (fr_of hCl hOR (hfr 113 (by decide))) (shK_at hSh eK_113) (by decide) (by decide) (by decide) ⟨by decide, by decide⟩ dX11_init_34 (fun q H hI => ?_)
  rw [← eO18] at hI
  replace hOR := hOR.zr 113
  rw [← eO18] at hOR
  obtain ⟨K19, eK19⟩ : ∃ z, z = K15 ++ [113] := ⟨_, rfl⟩
  obtain ⟨ad19, ea19⟩ : ∃ z, z = adU ad15 113 q := ⟨_, rfl⟩
  rw [← eK19, ← ea19] at hI
  have hin19 : ∀ b ∈ K15, b ∈ K19 := fun b hb => by rw [eK19]; exact List.mem_append_left _ hb
  have hk19 : 113 ∈ K19 := by rw [eK19]; exact List.mem_append_right _ (List.mem_singleton.mpr rfl)
  have hq19 : q = ad19 113 := by rw [ea19]; exact adU_k.symm
  have had19 : ∀ b ∈ K15, ad19 b = ad15 b := fun b hb => by rw [ea19]; exact adU_in hb (hfr 113 (by decide))
  have hr19_0 := had19 _ ((⟨hmem 100 (by decide), shK_at hSh eK_100⟩ : 100 ∈ K15 ∧ _)).1
  replace had : ∀ b ∈ K, ad19 b = ad b := fun b hb => (had19 b (hsub b hb)).trans (had b hb)
  replace hsub : ∀ b ∈ K, b ∈ K19 := fun b hb => hin19 b (hsub b hb)
  replace hcl : Bcl (AS K19 ad19 X) B := hclA.mono (AS_D hI.2.1)
  replace hn_tx : tx ∉ K19 := by rw [eK19]; exact nin_push hn_tx (by omega)
  replace hn_tx1 : (tx + 1) ∉ K19 := by rw [eK19]; exact nin_push hn_tx1 (by omega)
  replace hn_tx2 : (tx + 2) ∉ K19 := by rw [eK19]; exact nin_push hn_tx2 (by omega)
  replace hn_tx3 : (tx + 3) ∉ K19 := by rw [eK19]; exact nin_push hn_tx3 (by omega)
  replace hfr : ∀ e ∈ ([114, 115, 116, 117, 118, 128, 129, 130, 131, 132, 133, 134, 135, 136, 137, 138, 120, 124, 121, 125, 122, 126, 123, 127] : List Nat), e ∉ K19 := fun e he => by rw [eK19]; exact (nin_push (hfr e ((show ∀ e ∈ [114, 115, 116, 117, 118, 128, 129, 130, 131, 132, 133, 134, 135, 136, 137, 138, 120, 124, 121, 125, 122, 126, 123, 127], e ∈ [113, 114, 115, 116, 117, 118, 128, 129, 130, 131, 132, 133, 134, 135, 136, 137, 138, 120, 124, 121, 125, 122, 126, 123, 127] by decide +kernel) e he)) ((show ∀ e ∈ [114, 115, 116, 117, 118, 128, 129, 130, 131, 132, 133, 134, 135, 136, 137, 138, 120, 124, 121, 125, 122, 126, 123, 127], e ≠ 113 by decide +kernel) e he))
  have hnw19 : ∀ e ∈ ([113] : List Nat), e ∈ K19 := fun e he => by rw [eK19]; revert he; simp only [List.mem_append, List.mem_cons, List.not_mem_nil, or_false]; intro he; first | exact Or.inr he | (rcases he with h <;> simp [h])
  replace hmem : ∀ e ∈ ([113, 108, 109, 110, 111, 112, 107, 102, 103, 104, 105, 106, 101, 100] : List Nat), e ∈ K19 := fun e he => ((show ∀ e ∈ ([113, 108, 109, 110, 111, 112, 107, 102, 103, 104, 105, 106, 101, 100] : List Nat), e ∈ ([113] : List Nat) ∨ e ∈ ([108, 109, 110, 111, 112, 107, 102, 103, 104, 105, 106, 101, 100] : List Nat) by decide +kernel) e he).elim (fun h => hnw19 e h) (fun h => hin19 e (hmem e h))
  replace hCl : Cl K19 sh := by rw [eK19]; exact hCl.push (by rw [shK_at hSh eK_113]; simp)
  replace hOR : ORf K19 O18 := hOR.mono hin19
  rw [← hr19_0] at hl
  rw [hq19, ← hr19_0]
  clear ea19 hin19 hk19 hq19 had19 hr19_0 hnw19
  obtain ⟨O20, eO20, hf⟩ := bnd_i hf
  replace hOR := hOR.up (k := 100) (j := 3) ((⟨hmem 113 (by decide), shK_at hSh eK_113⟩ : 113 ∈ K19 ∧ _)).1
  rw [← eO20] at hOR
  refine s_putOF (ty := tyX11 3) E hnm inU11 tyX11_ok nmX11 hK hI (⟨hmem 100 (by decide), shK_at hSh eK_100⟩ : 100 ∈ K19 ∧ _) rfl 3 (by decide) u2_178 (fun _ h => h) rfl rfl rfl (tyX11_ok 3 (by decide)) rfl rfl eO20 dX11_init_37 (fun H locs hI => ?_)
  refine lv_aload_n hx hb dX11_init_40 rfl (lv_at hl 0 rfl) ?_
  refine lv_iconst (v := 0) hx hb dX11_init_41 (by decide) ?_
  obtain ⟨G21, eG21, hf⟩ := bnd_i hf
  refine s_put (ty := .int) hx hb hu inU11 tyX11_ok nmX11 hown hK hI (⟨hmem 100 (by decide), shK_at hSh eK_100⟩ : 100 ∈ K19 ∧ _) rfl 4 (by decide) u2_179 (fun _ h => h) rfl rfl (tyX11_ok 4 (by decide)) rfl rfl eG21 dX11_init_42 (fun H locs hI => ?_)
  refine lv_aload_n hx hb dX11_init_45 rfl (lv_at hl 0 rfl) ?_
  obtain ⟨G22, eG22, hf⟩ := bnd_i hf
  obtain ⟨O23, eO23, hf⟩ := bnd_i hf
  refine s_newObj E inU5 tyX5_ok u1_83 u1_84 u1_4 hK hI hA rfl 114 (fr_of hCl hOR (hfr 114 (by decide))) (shK_at hSh eK_114) rfl (by decide +kernel) ⟨by decide, by decide⟩ dX11_init_46 (fun q H hI => ?_)
  rw [← eG22, ← eO23] at hI
  replace hOR := hOR.zr 114
  rw [← eO23] at hOR
  obtain ⟨K24, eK24⟩ : ∃ z, z = K19 ++ [114] := ⟨_, rfl⟩
  obtain ⟨ad24, ea24⟩ : ∃ z, z = adU ad19 114 q := ⟨_, rfl⟩
  rw [← eK24, ← ea24] at hI
  have hin24 : ∀ b ∈ K19, b ∈ K24 := fun b hb => by rw [eK24]; exact List.mem_append_left _ hb
  have hk24 : 114 ∈ K24 := by rw [eK24]; exact List.mem_append_right _ (List.mem_singleton.mpr rfl)
  have hq24 : q = ad24 114 := by rw [ea24]; exact adU_k.symm
  have had24 : ∀ b ∈ K19, ad24 b = ad19 b := fun b hb => by rw [ea24]; exact adU_in hb (hfr 114 (by decide))
  have hr24_0 := had24 _ ((⟨hmem 100 (by decide), shK_at hSh eK_100⟩ : 100 ∈ K19 ∧ _)).1
  replace had : ∀ b ∈ K, ad24 b = ad b := fun b hb => (had24 b (hsub b hb)).trans (had b hb)
  replace hsub : ∀ b ∈ K, b ∈ K24 := fun b hb => hin24 b (hsub b hb)
  replace hcl : Bcl (AS K24 ad24 X) B := hclA.mono (AS_D hI.2.1)
  replace hn_tx : tx ∉ K24 := by rw [eK24]; exact nin_push hn_tx (by omega)
  replace hn_tx1 : (tx + 1) ∉ K24 := by rw [eK24]; exact nin_push hn_tx1 (by omega)
  replace hn_tx2 : (tx + 2) ∉ K24 := by rw [eK24]; exact nin_push hn_tx2 (by omega)
  replace hn_tx3 : (tx + 3) ∉ K24 := by rw [eK24]; exact nin_push hn_tx3 (by omega)
  replace hfr : ∀ e ∈ ([115, 116, 117, 118, 128, 129, 130, 131, 132, 133, 134, 135, 136, 137, 138, 120, 124, 121, 125, 122, 126, 123, 127] : List Nat), e ∉ K24 := fun e he => by rw [eK24]; exact (nin_push (hfr e ((show ∀ e ∈ [115, 116, 117, 118, 128, 129, 130, 131, 132, 133, 134, 135, 136, 137, 138, 120, 124, 121, 125, 122, 126, 123, 127], e ∈ [114, 115, 116, 117, 118, 128, 129, 130, 131, 132, 133, 134, 135, 136, 137, 138, 120, 124, 121, 125, 122, 126, 123, 127] by decide +kernel) e he)) ((show ∀ e ∈ [115, 116, 117, 118, 128, 129, 130, 131, 132, 133, 134, 135, 136, 137, 138, 120, 124, 121, 125, 122, 126, 123, 127], e ≠ 114 by decide +kernel) e he))
  have hnw24 : ∀ e ∈ ([114] : List Nat), e ∈ K24 := fun e he => by rw [eK24]; revert he; simp only [List.mem_append, List.mem_cons, List.not_mem_nil, or_false]; intro he; first | exact Or.inr he | (rcases he with h <;> simp [h])
  replace hmem : ∀ e ∈ ([114, 113, 108, 109, 110, 111, 112, 107, 102, 103, 104, 105, 106, 101, 100] : List Nat), e ∈ K24 := fun e he => ((show ∀ e ∈ ([114, 113, 108, 109, 110, 111, 112, 107, 102, 103, 104, 105, 106, 101, 100] : List Nat), e ∈ ([114] : List Nat) ∨ e ∈ ([113, 108, 109, 110, 111, 112, 107, 102, 103, 104, 105, 106, 101, 100] : List Nat) by decide +kernel) e he).elim (fun h => hnw24 e h) (fun h => hin24 e (hmem e h))
  replace hCl : Cl K24 sh := by rw [eK24]; exact hCl.push (by rw [shK_at hSh eK_114]; simp)
  replace hOR : ORf K24 O23 := hOR.mono hin24
  rw [← hr24_0] at hl
  rw [hq24, ← hr24_0]
  clear ea24 hin24 hk24 hq24 had24 hr24_0 hnw24
  refine lv_dup hx hb dX11_init_49 rfl ?_
  obtain ⟨G26, O27, h25, hf⟩ := bndP_i hf
  refine s_afZ hA hI (s_runINz (host := RX11) (rest := [.ref (ad24 114), .ref (ad24 100)]) (As := []) (np := 0) E hK hI (s_B hclA hBs hI) hclA.2 (c_X5_init l D K24 sh ad24 cy X B H.size (hclA.mono (AZ_in hI hA)) hCl (hmem 114 (by decide)) (shK_at hSh eK_114) (shK_at hSh eK_115) (hfr 115 (by decide)) (shK_at hSh eK_116) (hfr 116 (by decide)) G22 L O23 hOR h25) kyX5_init (by decide) u1_86 rfl (by decide) rfl hl.1 rfl (Nat.le_of_ble_eq_true rfl) ⟨by decide, by decide⟩ dX11_init_50) (fun ad28 sh1 H locs had28 hHy hI => ?_)
  replace hHy := hHy.symm
  subst hHy
  change W p l e _ s m _ below meth c _ _ _ _ _ (F0 m 53 ls [.ref (ad24 114), .ref (ad24 100)])
  obtain ⟨K28, eK28⟩ : ∃ z, z = ((K24 ++ [115]) ++ [116]) := ⟨_, rfl⟩
  rw [← eK28] at hI
  have hin28 : ∀ b ∈ K24, b ∈ K28 := fun b hb => by rw [eK28]; exact (List.mem_append_left _ (List.mem_append_left _ hb))
  have hk28_0 : 115 ∈ K28 := by rw [eK28]; exact (List.mem_append_left _ (List.mem_append_right _ (List.mem_singleton.mpr rfl)))
  have hk28_1 : 116 ∈ K28 := by rw [eK28]; exact (List.mem_append_right _ (List.mem_singleton.mpr rfl))
  have hr28_0 := had28 _ ((⟨hmem 114 (by decide), shK_at hSh eK_114⟩ : 114 ∈ K24 ∧ _)).1
  have hr28_1 := had28 _ ((⟨hmem 100 (by decide), shK_at hSh eK_100⟩ : 100 ∈ K24 ∧ _)).1
  replace had : ∀ b ∈ K, ad28 b = ad b := fun b hb => (had28 b (hsub b hb)).trans (had b hb)
  replace hsub : ∀ b ∈ K, b ∈ K28 := fun b hb => hin28 b (hsub b hb)
  replace hcl : Bcl (AS K28 ad28 X) B := hclA.mono (AS_D hI.2.1)
  replace hn_tx : tx ∉ K28 := by rw [eK28]; exact (nin_push (nin_push hn_tx (by omega)) (by omega))
  replace hn_tx1 : (tx + 1) ∉ K28 := by rw [eK28]; exact (nin_push (nin_push hn_tx1 (by omega)) (by omega))
  replace hn_tx2 : (tx + 2) ∉ K28 := by rw [eK28]; exact (nin_push (nin_push hn_tx2 (by omega)) (by omega))
  replace hn_tx3 : (tx + 3) ∉ K28 := by rw [eK28]; exact (nin_push (nin_push hn_tx3 (by omega)) (by omega))
  replace hfr : ∀ e ∈ ([117, 118, 128, 129, 130, 131, 132, 133, 134, 135, 136, 137, 138, 120, 124, 121, 125, 122, 126, 123, 127] : List Nat), e ∉ K28 := fun e he => by rw [eK28]; exact (nin_push (nin_push (hfr e ((show ∀ e ∈ [117, 118, 128, 129, 130, 131, 132, 133, 134, 135, 136, 137, 138, 120, 124, 121, 125, 122, 126, 123, 127], e ∈ [115, 116, 117, 118, 128, 129, 130, 131, 132, 133, 134, 135, 136, 137, 138, 120, 124, 121, 125, 122, 126, 123, 127] by decide +kernel) e he)) ((show ∀ e ∈ [117, 118, 128, 129, 130, 131, 132, 133, 134, 135, 136, 137, 138, 120, 124, 121, 125, 122, 126, 123, 127], e ≠ 115 by decide +kernel) e he)) ((show ∀ e ∈ [117, 118, 128, 129, 130, 131, 132, 133, 134, 135, 136, 137, 138, 120, 124, 121, 125, 122, 126, 123, 127], e ≠ 116 by decide +kernel) e he))
  have hnw28 : ∀ e ∈ ([115, 116] : List Nat), e ∈ K28 := fun e he => by rw [eK28]; revert he; simp only [List.mem_append, List.mem_cons, List.not_mem_nil, or_false]; intro he; first | exact Or.inr he | (rcases he with h | h <;> simp [h])
  replace hmem : ∀ e ∈ ([115, 116, 114, 113, 108, 109, 110, 111, 112, 107, 102, 103, 104, 105, 106, 101, 100] : List Nat), e ∈ K28 := fun e he => ((show ∀ e ∈ ([115, 116, 114, 113, 108, 109, 110, 111, 112, 107, 102, 103, 104, 105, 106, 101, 100] : List Nat), e ∈ ([115, 116] : List Nat) ∨ e ∈ ([114, 113, 108, 109, 110, 111, 112, 107, 102, 103, 104, 105, 106, 101, 100] : List Nat) by decide +kernel) e he).elim (fun h => hnw28 e h) (fun h => hin28 e (hmem e h))
  replace hOR := OR_X5_init (hOR.mono hin28) (hmem 115 (by decide)) (hmem 116 (by decide)) h25
  replace hCl : Cl K28 sh := by rw [eK28]; exact (Cl.push (Cl.push hCl (by rw [(shK_at hSh eK_115)]; simp)) (by rw [(shK_at hSh eK_116)]; simp))
  rw [← hr28_1] at hl
  rw [← hr28_0, ← hr28_1]
  clear hin28 hk28_0 hk28_1 hr28_0 hr28_1 hnw28
  obtain ⟨O29, eO29, hf⟩ := bnd_i hf
  replace hOR := hOR.up (k := 100) (j := 5) ((⟨hmem 114 (by decide), shK_at hSh eK_114⟩ : 114 ∈ K28 ∧ _)).1
  rw [← eO29] at hOR
  refine s_putOF (ty := tyX11 5) E hnm inU11 tyX11_ok nmX11 hK hI (⟨hmem 100 (by decide), shK_at hSh eK_100⟩ : 100 ∈ K28 ∧ _) rfl 5 (by decide) u2_180 (fun _ h => h) rfl rfl rfl (tyX11_ok 5 (by decide)) rfl rfl eO29 dX11_init_53 (fun H locs hI => ?_)
  refine lv_aload_n hx hb dX11_init_56 rfl (lv_at hl 0 rfl) ?_
  refine lv_bipush (v := 6) hx hb dX11_init_57 (by decide) ?_
  obtain ⟨O30, eO30, hf⟩ := bnd_i hf
  refine s_newR (t := 7) (t0 := 6) E (by decide) rfl u1_117 ((hAO s hBs).2.1) hK hI hA 117 (fr_of hCl hOR (hfr 117 (by decide))) (shK_at hSh eK_117) (by decide) (by decide) (by decide) ⟨by decide, by decide⟩ dX11_init_59 (fun q H hI => ?_)
  rw [← eO30] at hI
  replace hOR := hOR.zr 117
  rw [← eO30] at hOR
  obtain ⟨K31, eK31⟩ : ∃ z, z = K28 ++ [117] := ⟨_, rfl⟩
  obtain ⟨ad31, ea31⟩ : ∃ z, z = adU ad28 117 q := ⟨_, rfl⟩
  rw [← eK31, ← ea31] at hI
  have hin31 : ∀ b ∈ K28, b ∈ K31 := fun b hb => by rw [eK31]; exact List.mem_append_left _ hb
  have hk31 : 117 ∈ K31 := by rw [eK31]; exact List.mem_append_right _ (List.mem_singleton.mpr rfl)
  have hq31 : q = ad31 117 := by rw [ea31]; exact adU_k.symm
  have had31 : ∀ b ∈ K28, ad31 b = ad28 b := fun b hb => by rw [ea31]; exact adU_in hb (hfr 117 (by decide))
  have hr31_0 := had31 _ ((⟨hmem 100 (by decide), shK_at hSh eK_100⟩ : 100 ∈ K28 ∧ _)).1
  replace had : ∀ b ∈ K, ad31 b = ad b := fun b hb => (had31 b (hsub b hb)).trans (had b hb)
  replace hsub : ∀ b ∈ K, b ∈ K31 := fun b hb => hin31 b (hsub b hb)
  replace hcl : Bcl (AS K31 ad31 X) B := hclA.mono (AS_D hI.2.1)
  replace hn_tx : tx ∉ K31 := by rw [eK31]; exact nin_push hn_tx (by omega)
  replace hn_tx1 : (tx + 1) ∉ K31 := by rw [eK31]; exact nin_push hn_tx1 (by omega)
  replace hn_tx2 : (tx + 2) ∉ K31 := by rw [eK31]; exact nin_push hn_tx2 (by omega)
  replace hn_tx3 : (tx + 3) ∉ K31 := by rw [eK31]; exact nin_push hn_tx3 (by omega)
  replace hfr : ∀ e ∈ ([118, 128, 129, 130, 131, 132, 133, 134, 135, 136, 137, 138, 120, 124, 121, 125, 122, 126, 123, 127] : List Nat), e ∉ K31 := fun e he => by rw [eK31]; exact (nin_push (hfr e ((show ∀ e ∈ [118, 128, 129, 130, 131, 132, 133, 134, 135, 136, 137, 138, 120, 124, 121, 125, 122, 126, 123, 127], e ∈ [117, 118, 128, 129, 130, 131, 132, 133, 134, 135, 136, 137, 138, 120, 124, 121, 125, 122, 126, 123, 127] by decide +kernel) e he)) ((show ∀ e ∈ [118, 128, 129, 130, 131, 132, 133, 134, 135, 136, 137, 138, 120, 124, 121, 125, 122, 126, 123, 127], e ≠ 117 by decide +kernel) e he))
  have hnw31 : ∀ e ∈ ([117] : List Nat), e ∈ K31 := fun e he => by rw [eK31]; revert he; simp only [List.mem_append, List.mem_cons, List.not_mem_nil, or_false]; intro he; first | exact Or.inr he | (rcases he with h <;> simp [h])
  replace hmem : ∀ e ∈ ([117, 115, 116, 114, 113, 108, 109, 110, 111, 112, 107, 102, 103, 104, 105, 106, 101, 100] : List Nat), e ∈ K31 := fun e he => ((show ∀ e ∈ ([117, 115, 116, 114, 113, 108, 109, 110, 111, 112, 107, 102, 103, 104, 105, 106, 101, 100] : List Nat), e ∈ ([117] : List Nat) ∨ e ∈ ([115, 116, 114, 113, 108, 109, 110, 111, 112, 107, 102, 103, 104, 105, 106, 101, 100] : List Nat) by decide +kernel) e he).elim (fun h => hnw31 e h) (fun h => hin31 e (hmem e h))
  replace hCl : Cl K31 sh := by rw [eK31]; exact hCl.push (by rw [shK_at hSh eK_117]; simp)
  replace hOR : ORf K31 O30 := hOR.mono hin31
  rw [← hr31_0] at hl
  rw [hq31, ← hr31_0]
  clear ea31 hin31 hk31 hq31 had31 hr31_0 hnw31
  obtain ⟨O32, eO32, hf⟩ := bnd_i hf
  replace hOR := hOR.up (k := 100) (j := 6) ((⟨hmem 117 (by decide), shK_at hSh eK_117⟩ : 117 ∈ K31 ∧ _)).1
  rw [← eO32] at hOR
  refine s_putOF (ty := tyX11 6) E hnm inU11 tyX11_ok nmX11 hK hI (⟨hmem 100 (by decide), shK_at hSh eK_100⟩ : 100 ∈ K31 ∧ _) rfl 6 (by decide) u2_181 (fun _ h => h) rfl rfl rfl (tyX11_ok 6 (by decide)) rfl rfl eO32 dX11_init_62 (fun H locs hI => ?_)
  refine lv_aload_n hx hb dX11_init_65 rfl (lv_at hl 0 rfl) ?_
  refine lv_iconst (v := 0) hx hb dX11_init_66 (by decide) ?_
  obtain ⟨G33, eG33, hf⟩ := bnd_i hf
  refine s_put (ty := .int) hx hb hu inU11 tyX11_ok nmX11 hown hK hI (⟨hmem 100 (by decide), shK_at hSh eK_100⟩ : 100 ∈ K31 ∧ _) rfl 7 (by decide) u2_182 (fun _ h => h) rfl rfl (tyX11_ok 7 (by decide)) rfl rfl eG33 dX11_init_67 (fun H locs hI => ?_)
  refine lv_aload_n hx hb dX11_init_70 rfl (lv_at hl 0 rfl) ?_
  refine lv_iconst (v := 4) hx hb dX11_init_71 (by decide) ?_
  obtain ⟨O34, eO34, hf⟩ := bnd_i hf
  refine s_newR (t := 8) (t0 := 7) E (by decide) rfl u1_119 ((hAO s hBs).2.2) hK hI hA 118 (fr_of hCl hOR (hfr 118 (by decide))) (shK_at hSh eK_118) (by decide) (by decide) (by decide) ⟨by decide, by decide⟩ dX11_init_72 (fun q H hI => ?_)
  rw [← eO34] at hI
  replace hOR := hOR.zr 118
  rw [← eO34] at hOR
  obtain ⟨K35, eK35⟩ : ∃ z, z = K31 ++ [118] := ⟨_, rfl⟩
  obtain ⟨ad35, ea35⟩ : ∃ z, z = adU ad31 118 q := ⟨_, rfl⟩
  rw [← eK35, ← ea35] at hI
  have hin35 : ∀ b ∈ K31, b ∈ K35 := fun b hb => by rw [eK35]; exact List.mem_append_left _ hb
  have hk35 : 118 ∈ K35 := by rw [eK35]; exact List.mem_append_right _ (List.mem_singleton.mpr rfl)
  have hq35 : q = ad35 118 := by rw [ea35]; exact adU_k.symm
  have had35 : ∀ b ∈ K31, ad35 b = ad31 b := fun b hb => by rw [ea35]; exact adU_in hb (hfr 118 (by decide))
  have hr35_0 := had35 _ ((⟨hmem 100 (by decide), shK_at hSh eK_100⟩ : 100 ∈ K31 ∧ _)).1
  replace had : ∀ b ∈ K, ad35 b = ad b := fun b hb => (had35 b (hsub b hb)).trans (had b hb)
  replace hsub : ∀ b ∈ K, b ∈ K35 := fun b hb => hin35 b (hsub b hb)
  replace hcl : Bcl (AS K35 ad35 X) B := hclA.mono (AS_D hI.2.1)
  replace hn_tx : tx ∉ K35 := by rw [eK35]; exact nin_push hn_tx (by omega)
  replace hn_tx1 : (tx + 1) ∉ K35 := by rw [eK35]; exact nin_push hn_tx1 (by omega)
  replace hn_tx2 : (tx + 2) ∉ K35 := by rw [eK35]; exact nin_push hn_tx2 (by omega)
  replace hn_tx3 : (tx + 3) ∉ K35 := by rw [eK35]; exact nin_push hn_tx3 (by omega)
  replace hfr : ∀ e ∈ ([128, 129, 130, 131, 132, 133, 134, 135, 136, 137, 138, 120, 124, 121, 125, 122, 126, 123, 127] : List Nat), e ∉ K35 := fun e he => by rw [eK35]; exact (nin_push (hfr e ((show ∀ e ∈ [128, 129, 130, 131, 132, 133, 134, 135, 136, 137, 138, 120, 124, 121, 125, 122, 126, 123, 127], e ∈ [118, 128, 129, 130, 131, 132, 133, 134, 135, 136, 137, 138, 120, 124, 121, 125, 122, 126, 123, 127] by decide +kernel) e he)) ((show ∀ e ∈ [128, 129, 130, 131, 132, 133, 134, 135, 136, 137, 138, 120, 124, 121, 125, 122, 126, 123, 127], e ≠ 118 by decide +kernel) e he))
  have hnw35 : ∀ e ∈ ([118] : List Nat), e ∈ K35 := fun e he => by rw [eK35]; revert he; simp only [List.mem_append, List.mem_cons, List.not_mem_nil, or_false]; intro he; first | exact Or.inr he | (rcases he with h <;> simp [h])
  replace hmem : ∀ e ∈ ([118, 117, 115, 116, 114, 113, 108, 109, 110, 111, 112, 107, 102, 103, 104, 105, 106, 101, 100] : List Nat), e ∈ K35 := fun e he => ((show ∀ e ∈ ([118, 117, 115, 116, 114, 113, 108, 109, 110, 111, 112, 107, 102, 103, 104, 105, 106, 101, 100] : List Nat), e ∈ ([118] : List Nat) ∨ e ∈ ([117, 115, 116, 114, 113, 108, 109, 110, 111, 112, 107, 102, 103, 104, 105, 106, 101, 100] : List Nat) by decide +kernel) e he).elim (fun h => hnw35 e h) (fun h => hin35 e (hmem e h))
  replace hCl : Cl K35 sh := by rw [eK35]; exact hCl.push (by rw [shK_at hSh eK_118]; simp)
  replace hOR : ORf K35 O34 := hOR.mono hin35
  rw [← hr35_0] at hl
  rw [hq35, ← hr35_0]
  clear ea35 hin35 hk35 hq35 had35 hr35_0 hnw35
  obtain ⟨O36, eO36, hf⟩ := bnd_i hf
  replace hOR := hOR.up (k := 100) (j := 8) ((⟨hmem 118 (by decide), shK_at hSh eK_118⟩ : 118 ∈ K35 ∧ _)).1
  rw [← eO36] at hOR
  refine s_putOF (ty := tyX11 8) E hnm inU11 tyX11_ok nmX11 hK hI (⟨hmem 100 (by decide), shK_at hSh eK_100⟩ : 100 ∈ K35 ∧ _) rfl 8 (by decide) u2_183 (fun _ h => h) rfl rfl rfl (tyX11_ok 8 (by decide)) rfl rfl eO36 dX11_init_75 (fun H locs hI => ?_)
  refine lv_aload_n hx hb dX11_init_78 rfl (lv_at hl 0 rfl) ?_
  obtain ⟨G37, eG37, hf⟩ := bnd_i hf
  obtain ⟨O38, eO38, hf⟩ := bnd_i hf
  refine s_newObj E inU1 tyX1_ok u1_121 u1_122 u1_5 hK hI hA rfl 128 (fr_of hCl hOR (hfr 128 (by decide))) (shK_at hSh eK_128) rfl (by decide +kernel) ⟨by decide, by decide⟩ dX11_init_79 (fun q H hI => ?_)
  rw [← eG37, ← eO38] at hI
  replace hOR := hOR.zr 128
  rw [← eO38] at hOR
  obtain ⟨K39, eK39⟩ : ∃ z, z = K35 ++ [128] := ⟨_, rfl⟩
  obtain ⟨ad39, ea39⟩ : ∃ z, z = adU ad35 128 q := ⟨_, rfl⟩
  rw [← eK39, ← ea39] at hI
  have hin39 : ∀ b ∈ K35, b ∈ K39 := fun b hb => by rw [eK39]; exact List.mem_append_left _ hb
  have hk39 : 128 ∈ K39 := by rw [eK39]; exact List.mem_append_right _ (List.mem_singleton.mpr rfl)
  have hq39 : q = ad39 128 := by rw [ea39]; exact adU_k.symm
  have had39 : ∀ b ∈ K35, ad39 b = ad35 b := fun b hb => by rw [ea39]; exact adU_in hb (hfr 128 (by decide))
  have hr39_0 := had39 _ ((⟨hmem 100 (by decide), shK_at hSh eK_100⟩ : 100 ∈ K35 ∧ _)).1
  replace had : ∀ b ∈ K, ad39 b = ad b := fun b hb => (had39 b (hsub b hb)).trans (had b hb)
  replace hsub : ∀ b ∈ K, b ∈ K39 := fun b hb => hin39 b (hsub b hb)
  replace hcl : Bcl (AS K39 ad39 X) B := hclA.mono (AS_D hI.2.1)
  replace hn_tx : tx ∉ K39 := by rw [eK39]; exact nin_push hn_tx (by omega)
  replace hn_tx1 : (tx + 1) ∉ K39 := by rw [eK39]; exact nin_push hn_tx1 (by omega)
  replace hn_tx2 : (tx + 2) ∉ K39 := by rw [eK39]; exact nin_push hn_tx2 (by omega)
  replace hn_tx3 : (tx + 3) ∉ K39 := by rw [eK39]; exact nin_push hn_tx3 (by omega)
  replace hfr : ∀ e ∈ ([129, 130, 131, 132, 133, 134, 135, 136, 137, 138, 120, 124, 121, 125, 122, 126, 123, 127] : List Nat), e ∉ K39 := fun e he => by rw [eK39]; exact (nin_push (hfr e ((show ∀ e ∈ [129, 130, 131, 132, 133, 134, 135, 136, 137, 138, 120, 124, 121, 125, 122, 126, 123, 127], e ∈ [128, 129, 130, 131, 132, 133, 134, 135, 136, 137, 138, 120, 124, 121, 125, 122, 126, 123, 127] by decide +kernel) e he)) ((show ∀ e ∈ [129, 130, 131, 132, 133, 134, 135, 136, 137, 138, 120, 124, 121, 125, 122, 126, 123, 127], e ≠ 128 by decide +kernel) e he))
  have hnw39 : ∀ e ∈ ([128] : List Nat), e ∈ K39 := fun e he => by rw [eK39]; revert he; simp only [List.mem_append, List.mem_cons, List.not_mem_nil, or_false]; intro he; first | exact Or.inr he | (rcases he with h <;> simp [h])
  replace hmem : ∀ e ∈ ([128, 118, 117, 115, 116, 114, 113, 108, 109, 110, 111, 112, 107, 102, 103, 104, 105, 106, 101, 100] : List Nat), e ∈ K39 := fun e he => ((show ∀ e ∈ ([128, 118, 117, 115, 116, 114, 113, 108, 109, 110, 111, 112, 107, 102, 103, 104, 105, 106, 101, 100] : List Nat), e ∈ ([128] : List Nat) ∨ e ∈ ([118, 117, 115, 116, 114, 113, 108, 109, 110, 111, 112, 107, 102, 103, 104, 105, 106, 101, 100] : List Nat) by decide +kernel) e he).elim (fun h => hnw39 e h) (fun h => hin39 e (hmem e h))
  replace hCl : Cl K39 sh := by rw [eK39]; exact hCl.push (by rw [shK_at hSh eK_128]; simp)
  replace hOR : ORf K39 O38 := hOR.mono hin39
  rw [← hr39_0] at hl
  rw [hq39, ← hr39_0]
  clear ea39 hin39 hk39 hq39 had39 hr39_0 hnw39
  refine lv_dup hx hb dX11_init_82 rfl ?_
  refine lv_aload_n hx hb dX11_init_83 rfl (lv_at hl 0 rfl) ?_
  obtain ⟨h40, hf⟩ := chk_i hf
  refine s_get (v := va_rf (Option.map ad39 (O38 100 0))) hx hb hu inU11 hown hK hI (⟨hmem 100 (by decide), shK_at hSh eK_100⟩ : 100 ∈ K39 ∧ _) rfl 0 (by decide) u2_175 (fun _ h => h) rfl rfl dX11_init_84 ?_
  refine s_nmO (of_decide_eq_true h40) ?_
  refine lv_aload_n hx hb dX11_init_87 rfl (lv_at hl 0 rfl) ?_
  obtain ⟨h41, hf⟩ := chk_i hf
  refine s_get (v := va_rf (Option.map ad39 (O38 100 3))) hx hb hu inU11 hown hK hI (⟨hmem 100 (by decide), shK_at hSh eK_100⟩ : 100 ∈ K39 ∧ _) rfl 3 (by decide) u2_178 (fun _ h => h) rfl rfl dX11_init_88 ?_
  refine s_nmO (of_decide_eq_true h41) ?_
  obtain ⟨G43, L44, O45, h42, hf⟩ := bndP3_i hf
  refine s_afZ hA hI (s_runI (rest := [.ref (ad39 128), .ref (ad39 100)]) (As := [.ref (ad39 101), .ref (ad39 113)]) (np := 2) E hK hI (s_B hclA hBs hI) hclA.2 (c_X1_init l D K39 sh ad39 cy X B H.size (hclA.mono (AZ_in hI hA)) hCl (hmem 128 (by decide)) (shK_at hSh eK_128) (shK_at hSh eK_129) (hfr 129 (by decide)) (shK_at hSh eK_130) (hfr 130 (by decide)) (shK_at hSh eK_131) (hfr 131 (by decide)) (shK_at hSh eK_132) (hfr 132 (by decide)) (shK_at hSh eK_133) (hfr 133 (by decide)) (shK_at hSh eK_134) (hfr 134 (by decide)) (shK_at hSh eK_135) (hfr 135 (by decide)) (shK_at hSh eK_136) (hfr 136 (by decide)) (hmem 101 (by decide)) (hmem 113 (by decide)) G37 L O38 hOR h42) kyX1_init u1_123 u1_124 rfl (by decide) rfl hl.1 rfl (Nat.le_of_ble_eq_true rfl) ⟨by decide, by decide⟩ dX11_init_91) (fun ad46 sh1 H locs had46 hHy hI => ?_)
  replace hHy := hHy.symm
  subst hHy
  change W p l e _ s m _ below meth c _ _ _ _ _ (F0 m 94 ls [.ref (ad39 128), .ref (ad39 100)])
  obtain ⟨K46, eK46⟩ : ∃ z, z = ((((((((K39 ++ [129]) ++ [130]) ++ [131]) ++ [132]) ++ [133]) ++ [134]) ++ [135]) ++ [136]) := ⟨_, rfl⟩
  rw [← eK46] at hI
  have hin46 : ∀ b ∈ K39, b ∈ K46 := fun b hb => by rw [eK46]; exact (List.mem_append_left _ (List.mem_append_left _ (List.mem_append_left _ (List.mem_append_left _ (List.mem_append_left _ (List.mem_append_left _ (List.mem_append_left _ (List.mem_append_left _ hb))))))))
  have hk46_0 : 129 ∈ K46 := by rw [eK46]; exact (List.mem_append_left _ (List.mem_append_left _ (List.mem_append_left _ (List.mem_append_left _ (List.mem_append_left _ (List.mem_append_left _ (List.mem_append_left _ (List.mem_append_right _ (List.mem_singleton.mpr rfl)))))))))
  have hk46_1 : 130 ∈ K46 := by rw [eK46]; exact (List.mem_append_left _ (List.mem_append_left _ (List.mem_append_left _ (List.mem_append_left _ (List.mem_append_left _ (List.mem_append_left _ (List.mem_append_right _ (List.mem_singleton.mpr rfl))))))))
  have hk46_2 : 131 ∈ K46 := by rw [eK46]; exact (List.mem_append_left _ (List.mem_append_left _ (List.mem_append_left _ (List.mem_append_left _ (List.mem_append_left _ (List.mem_append_right _ (List.mem_singleton.mpr rfl)))))))
  have hk46_3 : 132 ∈ K46 := by rw [eK46]; exact (List.mem_append_left _ (List.mem_append_left _ (List.mem_append_left _ (List.mem_append_left _ (List.mem_append_right _ (List.mem_singleton.mpr rfl))))))
  have hk46_4 : 133 ∈ K46 := by rw [eK46]; exact (List.mem_append_left _ (List.mem_append_left _ (List.mem_append_left _ (List.mem_append_right _ (List.mem_singleton.mpr rfl)))))
  have hk46_5 : 134 ∈ K46 := by rw [eK46]; exact (List.mem_append_left _ (List.mem_append_left _ (List.mem_append_right _ (List.mem_singleton.mpr rfl))))
  have hk46_6 : 135 ∈ K46 := by rw [eK46]; exact (List.mem_append_left _ (List.mem_append_right _ (List.mem_singleton.mpr rfl)))
  have hk46_7 : 136 ∈ K46 := by rw [eK46]; exact (List.mem_append_right _ (List.mem_singleton.mpr rfl))
  have hr46_0 := had46 _ ((⟨hmem 128 (by decide), shK_at hSh eK_128⟩ : 128 ∈ K39 ∧ _)).1
  have hr46_1 := had46 _ ((⟨hmem 100 (by decide), shK_at hSh eK_100⟩ : 100 ∈ K39 ∧ _)).1
  replace had : ∀ b ∈ K, ad46 b = ad b := fun b hb => (had46 b (hsub b hb)).trans (had b hb)
  replace hsub : ∀ b ∈ K, b ∈ K46 := fun b hb => hin46 b (hsub b hb)
  replace hcl : Bcl (AS K46 ad46 X) B := hclA.mono (AS_D hI.2.1)
  replace hn_tx : tx ∉ K46 := by rw [eK46]; exact (nin_push (nin_push (nin_push (nin_push (nin_push (nin_push (nin_push (nin_push hn_tx (by omega)) (by omega)) (by omega)) (by omega)) (by omega)) (by omega)) (by omega)) (by omega))
  replace hn_tx1 : (tx + 1) ∉ K46 := by rw [eK46]; exact (nin_push (nin_push (nin_push (nin_push (nin_push (nin_push (nin_push (nin_push hn_tx1 (by omega)) (by omega)) (by omega)) (by omega)) (by omega)) (by omega)) (by omega)) (by omega))
  replace hn_tx2 : (tx + 2) ∉ K46 := by rw [eK46]; exact (nin_push (nin_push (nin_push (nin_push (nin_push (nin_push (nin_push (nin_push hn_tx2 (by omega)) (by omega)) (by omega)) (by omega)) (by omega)) (by omega)) (by omega)) (by omega))
  replace hn_tx3 : (tx + 3) ∉ K46 := by rw [eK46]; exact (nin_push (nin_push (nin_push (nin_push (nin_push (nin_push (nin_push (nin_push hn_tx3 (by omega)) (by omega)) (by omega)) (by omega)) (by omega)) (by omega)) (by omega)) (by omega))
  replace hfr : ∀ e ∈ ([137, 138, 120, 124, 121, 125, 122, 126, 123, 127] : List Nat), e ∉ K46 := fun e he => by rw [eK46]; exact (nin_push (nin_push (nin_push (nin_push (nin_push (nin_push (nin_push (nin_push (hfr e ((show ∀ e ∈ [137, 138, 120, 124, 121, 125, 122, 126, 123, 127], e ∈ [129, 130, 131, 132, 133, 134, 135, 136, 137, 138, 120, 124, 121, 125, 122, 126, 123, 127] by decide +kernel) e he)) ((show ∀ e ∈ [137, 138, 120, 124, 121, 125, 122, 126, 123, 127], e ≠ 129 by decide +kernel) e he)) ((show ∀ e ∈ [137, 138, 120, 124, 121, 125, 122, 126, 123, 127], e ≠ 130 by decide +kernel) e he)) ((show ∀ e ∈ [137, 138, 120, 124, 121, 125, 122, 126, 123, 127], e ≠ 131 by decide +kernel) e he)) ((show ∀ e ∈ [137, 138, 120, 124, 121, 125, 122, 126, 123, 127], e ≠ 132 by decide +kernel) e he)) ((show ∀ e ∈ [137, 138, 120, 124, 121, 125, 122, 126, 123, 127], e ≠ 133 by decide +kernel) e he)) ((show ∀ e ∈ [137, 138, 120, 124, 121, 125, 122, 126, 123, 127], e ≠ 134 by decide +kernel) e he)) ((show ∀ e ∈ [137, 138, 120, 124, 121, 125, 122, 126, 123, 127], e ≠ 135 by decide +kernel) e he)) ((show ∀ e ∈ [137, 138, 120, 124, 121, 125, 122, 126, 123, 127], e ≠ 136 by decide +kernel) e he))
  have hnw46 : ∀ e ∈ ([129, 130, 131, 132, 133, 134, 135, 136] : List Nat), e ∈ K46 := fun e he => by rw [eK46]; revert he; simp only [List.mem_append, List.mem_cons, List.not_mem_nil, or_false]; intro he; first | exact Or.inr he | (rcases he with h | h | h | h | h | h | h | h <;> simp [h])
  replace hmem : ∀ e ∈ ([129, 130, 131, 132, 133, 134, 135, 136, 128, 118, 117, 115, 116, 114, 113, 108, 109, 110, 111, 112, 107, 102, 103, 104, 105, 106, 101, 100] : List Nat), e ∈ K46 := fun e he => ((show ∀ e ∈ ([129, 130, 131, 132, 133, 134, 135, 136, 128, 118, 117, 115, 116, 114, 113, 108, 109, 110, 111, 112, 107, 102, 103, 104, 105, 106, 101, 100] : List Nat), e ∈ ([129, 130, 131, 132, 133, 134, 135, 136] : List Nat) ∨ e ∈ ([128, 118, 117, 115, 116, 114, 113, 108, 109, 110, 111, 112, 107, 102, 103, 104, 105, 106, 101, 100] : List Nat) by decide +kernel) e he).elim (fun h => hnw46 e h) (fun h => hin46 e (hmem e h))
  replace hOR := OR_X1_init (hOR.mono hin46) (hmem 129 (by decide)) (hmem 130 (by decide)) (hmem 131 (by decide)) (hmem 132 (by decide)) (hmem 133 (by decide)) (hmem 134 (by decide)) (hmem 135 (by decide)) (hmem 136 (by decide)) (hmem 101 (by decide)) (hmem 113 (by decide)) h42
  replace hCl : Cl K46 sh := by rw [eK46]; exact (Cl.push (Cl.push (Cl.push (Cl.push (Cl.push (Cl.push (Cl.push (Cl.push hCl (by rw [(shK_at hSh eK_129)]; simp)) (by rw [(shK_at hSh eK_130)]; simp)) (by rw [(shK_at hSh eK_131)]; simp)) (by rw [(shK_at hSh eK_132)]; simp)) (by rw [(shK_at hSh eK_133)]; simp)) (by rw [(shK_at hSh eK_134)]; simp)) (by rw [(shK_at hSh eK_135)]; simp)) (by rw [(shK_at hSh eK_136)]; simp))
  rw [← hr46_1] at hl
  rw [← hr46_0, ← hr46_1]
  clear hin46 hk46_0 hk46_1 hk46_2 hk46_3 hk46_4 hk46_5 hk46_6 hk46_7 hr46_0 hr46_1 hnw46
  obtain ⟨O47, eO47, hf⟩ := bnd_i hf
  replace hOR := hOR.up (k := 100) (j := 9) ((⟨hmem 128 (by decide), shK_at hSh eK_128⟩ : 128 ∈ K46 ∧ _)).1
  rw [← eO47] at hOR
  refine s_putOF (ty := tyX11 9) E hnm inU11 tyX11_ok nmX11 hK hI (⟨hmem 100 (by decide), shK_at hSh eK_100⟩ : 100 ∈ K46 ∧ _) rfl 9 (by decide) u2_184 (fun _ h => h) rfl rfl rfl (tyX11_ok 9 (by decide)) rfl rfl eO47 dX11_init_94 (fun H locs hI => ?_)
  refine lv_aload_n hx hb dX11_init_97 rfl (lv_at hl 0 rfl) ?_
  refine lv_sipush (v := 200) hx hb dX11_init_98 (by decide) ?_
  obtain ⟨L48, eL48, hf⟩ := bnd_i hf
  refine s_newL E u1_179 hK hI hA 137 (fr_of hCl hOR (hfr 137 (by decide))) (shK_at hSh eK_137) (by decide) (by decide) (by decide) ⟨by decide, by decide⟩ dX11_init_101 (fun q H hI => ?_)
  rw [← eL48] at hI
  obtain ⟨K49, eK49⟩ : ∃ z, z = K46 ++ [137] := ⟨_, rfl⟩
  obtain ⟨ad49, ea49⟩ : ∃ z, z = adU ad46 137 q := ⟨_, rfl⟩
  rw [← eK49, ← ea49] at hI
  have hin49 : ∀ b ∈ K46, b ∈ K49 := fun b hb => by rw [eK49]; exact List.mem_append_left _ hb
  have hk49 : 137 ∈ K49 := by rw [eK49]; exact List.mem_append_right _ (List.mem_singleton.mpr rfl)
  have hq49 : q = ad49 137 := by rw [ea49]; exact adU_k.symm
  have had49 : ∀ b ∈ K46, ad49 b = ad46 b := fun b hb => by rw [ea49]; exact adU_in hb (hfr 137 (by decide))
  have hr49_0 := had49 _ ((⟨hmem 100 (by decide), shK_at hSh eK_100⟩ : 100 ∈ K46 ∧ _)).1
  replace had : ∀ b ∈ K, ad49 b = ad b := fun b hb => (had49 b (hsub b hb)).trans (had b hb)
  replace hsub : ∀ b ∈ K, b ∈ K49 := fun b hb => hin49 b (hsub b hb)
  replace hcl : Bcl (AS K49 ad49 X) B := hclA.mono (AS_D hI.2.1)
  replace hn_tx : tx ∉ K49 := by rw [eK49]; exact nin_push hn_tx (by omega)
  replace hn_tx1 : (tx + 1) ∉ K49 := by rw [eK49]; exact nin_push hn_tx1 (by omega)
  replace hn_tx2 : (tx + 2) ∉ K49 := by rw [eK49]; exact nin_push hn_tx2 (by omega)
  replace hn_tx3 : (tx + 3) ∉ K49 := by rw [eK49]; exact nin_push hn_tx3 (by omega)
  replace hfr : ∀ e ∈ ([138, 120, 124, 121, 125, 122, 126, 123, 127] : List Nat), e ∉ K49 := fun e he => by rw [eK49]; exact (nin_push (hfr e ((show ∀ e ∈ [138, 120, 124, 121, 125, 122, 126, 123, 127], e ∈ [137, 138, 120, 124, 121, 125, 122, 126, 123, 127] by decide +kernel) e he)) ((show ∀ e ∈ [138, 120, 124, 121, 125, 122, 126, 123, 127], e ≠ 137 by decide +kernel) e he))
  have hnw49 : ∀ e ∈ ([137] : List Nat), e ∈ K49 := fun e he => by rw [eK49]; revert he; simp only [List.mem_append, List.mem_cons, List.not_mem_nil, or_false]; intro he; first | exact Or.inr he | (rcases he with h <;> simp [h])
  replace hmem : ∀ e ∈ ([137, 129, 130, 131, 132, 133, 134, 135, 136, 128, 118, 117, 115, 116, 114, 113, 108, 109, 110, 111, 112, 107, 102, 103, 104, 105, 106, 101, 100] : List Nat), e ∈ K49 := fun e he => ((show ∀ e ∈ ([137, 129, 130, 131, 132, 133, 134, 135, 136, 128, 118, 117, 115, 116, 114, 113, 108, 109, 110, 111, 112, 107, 102, 103, 104, 105, 106, 101, 100] : List Nat), e ∈ ([137] : List Nat) ∨ e ∈ ([129, 130, 131, 132, 133, 134, 135, 136, 128, 118, 117, 115, 116, 114, 113, 108, 109, 110, 111, 112, 107, 102, 103, 104, 105, 106, 101, 100] : List Nat) by decide +kernel) e he).elim (fun h => hnw49 e h) (fun h => hin49 e (hmem e h))
  replace hCl : Cl K49 sh := by rw [eK49]; exact hCl.push (by rw [shK_at hSh eK_137]; simp)
  replace hOR : ORf K49 O47 := hOR.mono hin49
  rw [← hr49_0] at hl
  rw [hq49, ← hr49_0]
  clear ea49 hin49 hk49 hq49 had49 hr49_0 hnw49
  obtain ⟨O50, eO50, hf⟩ := bnd_i hf
  replace hOR := hOR.up (k := 100) (j := 10) ((⟨hmem 137 (by decide), shK_at hSh eK_137⟩ : 137 ∈ K49 ∧ _)).1
  rw [← eO50] at hOR
  refine s_putOF (ty := tyX11 10) E hnm inU11 tyX11_ok nmX11 hK hI (⟨hmem 100 (by decide), shK_at hSh eK_100⟩ : 100 ∈ K49 ∧ _) rfl 10 (by decide) u2_185 (fun _ h => h) rfl rfl rfl (tyX11_ok 10 (by decide)) rfl rfl eO50 dX11_init_103 (fun H locs hI => ?_)
  refine lv_aload_n hx hb dX11_init_106 rfl (lv_at hl 0 rfl) ?_
  refine lv_sipush (v := 200) hx hb dX11_init_107 (by decide) ?_
  obtain ⟨L51, eL51, hf⟩ := bnd_i hf
  refine s_newL E u1_179 hK hI hA 138 (fr_of hCl hOR (hfr 138 (by decide))) (shK_at hSh eK_138) (by decide) (by decide) (by decide) ⟨by decide, by decide⟩ dX11_init_110 (fun q H hI => ?_)
  rw [← eL51] at hI
  obtain ⟨K52, eK52⟩ : ∃ z, z = K49 ++ [138] := ⟨_, rfl⟩
  obtain ⟨ad52, ea52⟩ : ∃ z, z = adU ad49 138 q := ⟨_, rfl⟩
  rw [← eK52, ← ea52] at hI
  have hin52 : ∀ b ∈ K49, b ∈ K52 := fun b hb => by rw [eK52]; exact List.mem_append_left _ hb
  have hk52 : 138 ∈ K52 := by rw [eK52]; exact List.mem_append_right _ (List.mem_singleton.mpr rfl)
  have hq52 : q = ad52 138 := by rw [ea52]; exact adU_k.symm
  have had52 : ∀ b ∈ K49, ad52 b = ad49 b := fun b hb => by rw [ea52]; exact adU_in hb (hfr 138 (by decide))
  have hr52_0 := had52 _ ((⟨hmem 100 (by decide), shK_at hSh eK_100⟩ : 100 ∈ K49 ∧ _)).1
  replace had : ∀ b ∈ K, ad52 b = ad b := fun b hb => (had52 b (hsub b hb)).trans (had b hb)
  replace hsub : ∀ b ∈ K, b ∈ K52 := fun b hb => hin52 b (hsub b hb)
  replace hcl : Bcl (AS K52 ad52 X) B := hclA.mono (AS_D hI.2.1)
  replace hn_tx : tx ∉ K52 := by rw [eK52]; exact nin_push hn_tx (by omega)
  replace hn_tx1 : (tx + 1) ∉ K52 := by rw [eK52]; exact nin_push hn_tx1 (by omega)
  replace hn_tx2 : (tx + 2) ∉ K52 := by rw [eK52]; exact nin_push hn_tx2 (by omega)
  replace hn_tx3 : (tx + 3) ∉ K52 := by rw [eK52]; exact nin_push hn_tx3 (by omega)
  replace hfr : ∀ e ∈ ([120, 124, 121, 125, 122, 126, 123, 127] : List Nat), e ∉ K52 := fun e he => by rw [eK52]; exact (nin_push (hfr e ((show ∀ e ∈ [120, 124, 121, 125, 122, 126, 123, 127], e ∈ [138, 120, 124, 121, 125, 122, 126, 123, 127] by decide +kernel) e he)) ((show ∀ e ∈ [120, 124, 121, 125, 122, 126, 123, 127], e ≠ 138 by decide +kernel) e he))
  have hnw52 : ∀ e ∈ ([138] : List Nat), e ∈ K52 := fun e he => by rw [eK52]; revert he; simp only [List.mem_append, List.mem_cons, List.not_mem_nil, or_false]; intro he; first | exact Or.inr he | (rcases he with h <;> simp [h])
  replace hmem : ∀ e ∈ ([138, 137, 129, 130, 131, 132, 133, 134, 135, 136, 128, 118, 117, 115, 116, 114, 113, 108, 109, 110, 111, 112, 107, 102, 103, 104, 105, 106, 101, 100] : List Nat), e ∈ K52 := fun e he => ((show ∀ e ∈ ([138, 137, 129, 130, 131, 132, 133, 134, 135, 136, 128, 118, 117, 115, 116, 114, 113, 108, 109, 110, 111, 112, 107, 102, 103, 104, 105, 106, 101, 100] : List Nat), e ∈ ([138] : List Nat) ∨ e ∈ ([137, 129, 130, 131, 132, 133, 134, 135, 136, 128, 118, 117, 115, 116, 114, 113, 108, 109, 110, 111, 112, 107, 102, 103, 104, 105, 106, 101, 100] : List Nat) by decide +kernel) e he).elim (fun h => hnw52 e h) (fun h => hin52 e (hmem e h))
  replace hCl : Cl K52 sh := by rw [eK52]; exact hCl.push (by rw [shK_at hSh eK_138]; simp)
  replace hOR : ORf K52 O50 := hOR.mono hin52
  rw [← hr52_0] at hl
  rw [hq52, ← hr52_0]
  clear ea52 hin52 hk52 hq52 had52 hr52_0 hnw52
  obtain ⟨O53, eO53, hf⟩ := bnd_i hf
  replace hOR := hOR.up (k := 100) (j := 11) ((⟨hmem 138 (by decide), shK_at hSh eK_138⟩ : 138 ∈ K52 ∧ _)).1
  rw [← eO53] at hOR
  refine s_putOF (ty := tyX11 11) E hnm inU11 tyX11_ok nmX11 hK hI (⟨hmem 100 (by decide), shK_at hSh eK_100⟩ : 100 ∈ K52 ∧ _) rfl 11 (by decide) u2_186 (fun _ h => h) rfl rfl rfl (tyX11_ok 11 (by decide)) rfl rfl eO53 dX11_init_112 (fun H locs hI => ?_)
  refine lv_iconst (v := 0) hx hb dX11_init_115 (by decide) ?_
  refine lv_istore_n (lv' := [(1, .int 0), (0, .ref (ad52 100))]) hx hb dX11_init_116 rfl hl (by decide) rfl (fun ls hl => ?_)
  refine lv_iload_n hx hb dX11_init_117 rfl (lv_at hl 0 rfl) ?_
  refine lv_iconst (v := 4) hx hb dX11_init_118 (by decide) ?_
  refine lv_icmp_ge (tgt := 141) hx hb dX11_init_119 (by decide) (fun c112 => absurd c112 (by decide)) (fun c112 => ?_)
  refine lv_aload_n hx hb dX11_init_122 rfl (lv_at hl 1 rfl) ?_
  obtain ⟨h54, hf⟩ := chk_i hf
  refine s_get (v := va_rf (Option.map ad52 (O53 100 8))) hx hb hu inU11 hown hK hI (⟨hmem 100 (by decide), shK_at hSh eK_100⟩ : 100 ∈ K52 ∧ _) rfl 8 (by decide) u2_183 (fun _ h => h) rfl rfl dX11_init_123 ?_
  refine s_nmO (of_decide_eq_true h54) ?_
  refine lv_iload_n hx hb dX11_init_126 rfl (lv_at hl 0 rfl) ?_
  obtain ⟨G55, eG55, hf⟩ := bnd_i hf
  obtain ⟨O56, eO56, hf⟩ := bnd_i hf
  refine s_newObj E inU6 tyX6_ok u1_119 u1_180 u1_6 hK hI hA rfl 120 (fr_of hCl hOR (hfr 120 (by decide))) (shK_at hSh eK_120) rfl (by decide +kernel) ⟨by decide, by decide⟩ dX11_init_127 (fun q H hI => ?_)
  rw [← eG55, ← eO56] at hI
  replace hOR := hOR.zr 120
  rw [← eO56] at hOR
  obtain ⟨K57, eK57⟩ : ∃ z, z = K52 ++ [120] := ⟨_, rfl⟩
  obtain ⟨ad57, ea57⟩ : ∃ z, z = adU ad52 120 q := ⟨_, rfl⟩
  rw [← eK57, ← ea57] at hI
  have hin57 : ∀ b ∈ K52, b ∈ K57 := fun b hb => by rw [eK57]; exact List.mem_append_left _ hb
  have hk57 : 120 ∈ K57 := by rw [eK57]; exact List.mem_append_right _ (List.mem_singleton.mpr rfl)
  have hq57 : q = ad57 120 := by rw [ea57]; exact adU_k.symm
  have had57 : ∀ b ∈ K52, ad57 b = ad52 b := fun b hb => by rw [ea57]; exact adU_in hb (hfr 120 (by decide))
  have hr57_0 := had57 _ ((⟨hmem 118 (by decide), shK_at hSh eK_118⟩ : 118 ∈ K52 ∧ _)).1
  have hr57_1 := had57 _ ((⟨hmem 100 (by decide), shK_at hSh eK_100⟩ : 100 ∈ K52 ∧ _)).1
  replace had : ∀ b ∈ K, ad57 b = ad b := fun b hb => (had57 b (hsub b hb)).trans (had b hb)
  replace hsub : ∀ b ∈ K, b ∈ K57 := fun b hb => hin57 b (hsub b hb)
  replace hcl : Bcl (AS K57 ad57 X) B := hclA.mono (AS_D hI.2.1)
  replace hn_tx : tx ∉ K57 := by rw [eK57]; exact nin_push hn_tx (by omega)
  replace hn_tx1 : (tx + 1) ∉ K57 := by rw [eK57]; exact nin_push hn_tx1 (by omega)
  replace hn_tx2 : (tx + 2) ∉ K57 := by rw [eK57]; exact nin_push hn_tx2 (by omega)
  replace hn_tx3 : (tx + 3) ∉ K57 := by rw [eK57]; exact nin_push hn_tx3 (by omega)
  replace hfr : ∀ e ∈ ([124, 121, 125, 122, 126, 123, 127] : List Nat), e ∉ K57 := fun e he => by rw [eK57]; exact (nin_push (hfr e ((show ∀ e ∈ [124, 121, 125, 122, 126, 123, 127], e ∈ [120, 124, 121, 125, 122, 126, 123, 127] by decide +kernel) e he)) ((show ∀ e ∈ [124, 121, 125, 122, 126, 123, 127], e ≠ 120 by decide +kernel) e he))
  have hnw57 : ∀ e ∈ ([120] : List Nat), e ∈ K57 := fun e he => by rw [eK57]; revert he; simp only [List.mem_append, List.mem_cons, List.not_mem_nil, or_false]; intro he; first | exact Or.inr he | (rcases he with h <;> simp [h])
  replace hmem : ∀ e ∈ ([120, 138, 137, 129, 130, 131, 132, 133, 134, 135, 136, 128, 118, 117, 115, 116, 114, 113, 108, 109, 110, 111, 112, 107, 102, 103, 104, 105, 106, 101, 100] : List Nat), e ∈ K57 := fun e he => ((show ∀ e ∈ ([120, 138, 137, 129, 130, 131, 132, 133, 134, 135, 136, 128, 118, 117, 115, 116, 114, 113, 108, 109, 110, 111, 112, 107, 102, 103, 104, 105, 106, 101, 100] : List Nat), e ∈ ([120] : List Nat) ∨ e ∈ ([138, 137, 129, 130, 131, 132, 133, 134, 135, 136, 128, 118, 117, 115, 116, 114, 113, 108, 109, 110, 111, 112, 107, 102, 103, 104, 105, 106, 101, 100] : List Nat) by decide +kernel) e he).elim (fun h => hnw57 e h) (fun h => hin57 e (hmem e h))
  replace hCl : Cl K57 sh := by rw [eK57]; exact hCl.push (by rw [shK_at hSh eK_120]; simp)
  replace hOR : ORf K57 O56 := hOR.mono hin57
  rw [← hr57_1] at hl
  rw [hq57, ← hr57_0]
  clear ea57 hin57 hk57 hq57 had57 hr57_0 hr57_1 hnw57
  refine lv_dup hx hb dX11_init_130 rfl ?_
  obtain ⟨G59, O60, h58, hf⟩ := bndP_i hf
  refine s_afZ hA hI (s_runINz (host := RX11) (rest := [.ref (ad57 120), .int 0, .ref (ad57 118)]) (As := []) (np := 0) E hK hI (s_B hclA hBs hI) hclA.2 (c_X6_init l D K57 sh ad57 cy X B H.size (hclA.mono (AZ_in hI hA)) hCl 120 (hmem 120 (by decide)) (shK_at hSh eK_120) (shK_at hSh eK_124) (hfr 124 (by decide)) G55 L51 O56 hOR h58) kyX6_init (by decide) u1_182 rfl (by decide) rfl hl.1 rfl (Nat.le_of_ble_eq_true rfl) ⟨by decide, by decide⟩ dX11_init_131) (fun ad61 sh1 H locs had61 hHy hI => ?_)
  replace hHy := hHy.symm
  subst hHy
  change W p l e _ s m _ below meth c _ _ _ _ _ (F0 m 134 ls [.ref (ad57 120), .int 0, .ref (ad57 118)])
  obtain ⟨K61, eK61⟩ : ∃ z, z = (K57 ++ [124]) := ⟨_, rfl⟩
  rw [← eK61] at hI
  have hin61 : ∀ b ∈ K57, b ∈ K61 := fun b hb => by rw [eK61]; exact (List.mem_append_left _ hb)
  have hk61_0 : 124 ∈ K61 := by rw [eK61]; exact (List.mem_append_right _ (List.mem_singleton.mpr rfl))
  have hr61_0 := had61 _ ((⟨hmem 120 (by decide), shK_at hSh eK_120⟩ : 120 ∈ K57 ∧ _)).1
  have hr61_1 := had61 _ ((⟨hmem 118 (by decide), shK_at hSh eK_118⟩ : 118 ∈ K57 ∧ _)).1
  have hr61_2 := had61 _ ((⟨hmem 100 (by decide), shK_at hSh eK_100⟩ : 100 ∈ K57 ∧ _)).1
  replace had : ∀ b ∈ K, ad61 b = ad b := fun b hb => (had61 b (hsub b hb)).trans (had b hb)
  replace hsub : ∀ b ∈ K, b ∈ K61 := fun b hb => hin61 b (hsub b hb)
  replace hcl : Bcl (AS K61 ad61 X) B := hclA.mono (AS_D hI.2.1)
  replace hn_tx : tx ∉ K61 := by rw [eK61]; exact (nin_push hn_tx (by omega))
  replace hn_tx1 : (tx + 1) ∉ K61 := by rw [eK61]; exact (nin_push hn_tx1 (by omega))
  replace hn_tx2 : (tx + 2) ∉ K61 := by rw [eK61]; exact (nin_push hn_tx2 (by omega))
  replace hn_tx3 : (tx + 3) ∉ K61 := by rw [eK61]; exact (nin_push hn_tx3 (by omega))
  replace hfr : ∀ e ∈ ([121, 125, 122, 126, 123, 127] : List Nat), e ∉ K61 := fun e he => by rw [eK61]; exact (nin_push (hfr e ((show ∀ e ∈ [121, 125, 122, 126, 123, 127], e ∈ [124, 121, 125, 122, 126, 123, 127] by decide +kernel) e he)) ((show ∀ e ∈ [121, 125, 122, 126, 123, 127], e ≠ 124 by decide +kernel) e he))
  have hnw61 : ∀ e ∈ ([124] : List Nat), e ∈ K61 := fun e he => by rw [eK61]; revert he; simp only [List.mem_append, List.mem_cons, List.not_mem_nil, or_false]; intro he; first | exact Or.inr he | (rcases he with h <;> simp [h])
  replace hmem : ∀ e ∈ ([124, 120, 138, 137, 129, 130, 131, 132, 133, 134, 135, 136, 128, 118, 117, 115, 116, 114, 113, 108, 109, 110, 111, 112, 107, 102, 103, 104, 105, 106, 101, 100] : List Nat), e ∈ K61 := fun e he => ((show ∀ e ∈ ([124, 120, 138, 137, 129, 130, 131, 132, 133, 134, 135, 136, 128, 118, 117, 115, 116, 114, 113, 108, 109, 110, 111, 112, 107, 102, 103, 104, 105, 106, 101, 100] : List Nat), e ∈ ([124] : List Nat) ∨ e ∈ ([120, 138, 137, 129, 130, 131, 132, 133, 134, 135, 136, 128, 118, 117, 115, 116, 114, 113, 108, 109, 110, 111, 112, 107, 102, 103, 104, 105, 106, 101, 100] : List Nat) by decide +kernel) e he).elim (fun h => hnw61 e h) (fun h => hin61 e (hmem e h))
  replace hOR := OR_X6_init (hOR.mono hin61) (hmem 124 (by decide)) h58
  replace hCl : Cl K61 sh := by rw [eK61]; exact (Cl.push hCl (by rw [(shK_at hSh eK_124)]; simp))
  rw [← hr61_2] at hl
  rw [← hr61_0, ← hr61_1]
  clear hin61 hk61_0 hr61_0 hr61_1 hr61_2 hnw61
  obtain ⟨O62, eO62, hf⟩ := bnd_i hf
  replace hOR := hOR.up (k := 118) (j := (0 : Int32).toNatClampNeg) ((⟨hmem 120 (by decide), shK_at hSh eK_120⟩ : 120 ∈ K61 ∧ _)).1
  rw [← eO62] at hOR
  refine s_ast (t := 8) (t0 := 7) (t2 := 0) (N := 0) E (by decide) rfl hK hI (⟨hmem 118 (by decide), shK_at hSh eK_118⟩ : 118 ∈ K61 ∧ _) (⟨hmem 120 (by decide), shK_at hSh eK_120⟩ : 120 ∈ K61 ∧ _) rfl (inB_i (by decide)) eO62 dX11_init_134 (fun H locs hI => ?_)
  refine lv_iinc (v := 1) (lv' := [(1, .int 1), (0, .ref (ad61 100))]) hx hb dX11_init_135 hl (k := 0) rfl (by decide) (by decide) rfl (fun ls hl => ?_)
  refine lv_goto (tgt := 117) hx hb dX11_init_138 (by decide) ?_
  refine lv_iload_n hx hb dX11_init_117 rfl (lv_at hl 0 rfl) ?_
  refine lv_iconst (v := 4) hx hb dX11_init_118 (by decide) ?_
  refine lv_icmp_ge (tgt := 141) hx hb dX11_init_119 (by decide) (fun c111 => absurd c111 (by decide)) (fun c111 => ?_)
  refine lv_aload_n hx hb dX11_init_122 rfl (lv_at hl 1 rfl) ?_
  obtain ⟨h63, hf⟩ := chk_i hf
  refine s_get (v := va_rf (Option.map ad61 (O62 100 8))) hx hb hu inU11 hown hK hI (⟨hmem 100 (by decide), shK_at hSh eK_100⟩ : 100 ∈ K61 ∧ _) rfl 8 (by decide) u2_183 (fun _ h => h) rfl rfl dX11_init_123 ?_
  refine s_nmO (of_decide_eq_true h63) ?_
  refine lv_iload_n hx hb dX11_init_126 rfl (lv_at hl 0 rfl) ?_
  obtain ⟨G64, eG64, hf⟩ := bnd_i hf
  obtain ⟨O65, eO65, hf⟩ := bnd_i hf
  refine s_newObj E inU6 tyX6_ok u1_119 u1_180 u1_6 hK hI hA rfl 121 (fr_of hCl hOR (hfr 121 (by decide))) (shK_at hSh eK_121) rfl (by decide +kernel) ⟨by decide, by decide⟩ dX11_init_127 (fun q H hI => ?_)
  rw [← eG64, ← eO65] at hI
  replace hOR := hOR.zr 121
  rw [← eO65] at hOR
  obtain ⟨K66, eK66⟩ : ∃ z, z = K61 ++ [121] := ⟨_, rfl⟩
  obtain ⟨ad66, ea66⟩ : ∃ z, z = adU ad61 121 q := ⟨_, rfl⟩
  rw [← eK66, ← ea66] at hI
  have hin66 : ∀ b ∈ K61, b ∈ K66 := fun b hb => by rw [eK66]; exact List.mem_append_left _ hb
  have hk66 : 121 ∈ K66 := by rw [eK66]; exact List.mem_append_right _ (List.mem_singleton.mpr rfl)
  have hq66 : q = ad66 121 := by rw [ea66]; exact adU_k.symm
  have had66 : ∀ b ∈ K61, ad66 b = ad61 b := fun b hb => by rw [ea66]; exact adU_in hb (hfr 121 (by decide))
  have hr66_0 := had66 _ ((⟨hmem 118 (by decide), shK_at hSh eK_118⟩ : 118 ∈ K61 ∧ _)).1
  have hr66_1 := had66 _ ((⟨hmem 100 (by decide), shK_at hSh eK_100⟩ : 100 ∈ K61 ∧ _)).1
  replace had : ∀ b ∈ K, ad66 b = ad b := fun b hb => (had66 b (hsub b hb)).trans (had b hb)
  replace hsub : ∀ b ∈ K, b ∈ K66 := fun b hb => hin66 b (hsub b hb)
  replace hcl : Bcl (AS K66 ad66 X) B := hclA.mono (AS_D hI.2.1)
  replace hn_tx : tx ∉ K66 := by rw [eK66]; exact nin_push hn_tx (by omega)
  replace hn_tx1 : (tx + 1) ∉ K66 := by rw [eK66]; exact nin_push hn_tx1 (by omega)
  replace hn_tx2 : (tx + 2) ∉ K66 := by rw [eK66]; exact nin_push hn_tx2 (by omega)
  replace hn_tx3 : (tx + 3) ∉ K66 := by rw [eK66]; exact nin_push hn_tx3 (by omega)
  replace hfr : ∀ e ∈ ([125, 122, 126, 123, 127] : List Nat), e ∉ K66 := fun e he => by rw [eK66]; exact (nin_push (hfr e ((show ∀ e ∈ [125, 122, 126, 123, 127], e ∈ [121, 125, 122, 126, 123, 127] by decide +kernel) e he)) ((show ∀ e ∈ [125, 122, 126, 123, 127], e ≠ 121 by decide +kernel) e he))
  have hnw66 : ∀ e ∈ ([121] : List Nat), e ∈ K66 := fun e he => by rw [eK66]; revert he; simp only [List.mem_append, List.mem_cons, List.not_mem_nil, or_false]; intro he; first | exact Or.inr he | (rcases he with h <;> simp [h])
  replace hmem : ∀ e ∈ ([121, 124, 120, 138, 137, 129, 130, 131, 132, 133, 134, 135, 136, 128, 118, 117, 115, 116, 114, 113, 108, 109, 110, 111, 112, 107, 102, 103, 104, 105, 106, 101, 100] : List Nat), e ∈ K66 := fun e he => ((show ∀ e ∈ ([121, 124, 120, 138, 137, 129, 130, 131, 132, 133, 134, 135, 136, 128, 118, 117, 115, 116, 114, 113, 108, 109, 110, 111, 112, 107, 102, 103, 104, 105, 106, 101, 100] : List Nat), e ∈ ([121] : List Nat) ∨ e ∈ ([124, 120, 138, 137, 129, 130, 131, 132, 133, 134, 135, 136, 128, 118, 117, 115, 116, 114, 113, 108, 109, 110, 111, 112, 107, 102, 103, 104, 105, 106, 101, 100] : List Nat) by decide +kernel) e he).elim (fun h => hnw66 e h) (fun h => hin66 e (hmem e h))
  replace hCl : Cl K66 sh := by rw [eK66]; exact hCl.push (by rw [shK_at hSh eK_121]; simp)
  replace hOR : ORf K66 O65 := hOR.mono hin66
  rw [← hr66_1] at hl
  rw [hq66, ← hr66_0]
  clear ea66 hin66 hk66 hq66 had66 hr66_0 hr66_1 hnw66
  refine lv_dup hx hb dX11_init_130 rfl ?_
  obtain ⟨G68, O69, h67, hf⟩ := bndP_i hf
  refine s_afZ hA hI (s_runINz (host := RX11) (rest := [.ref (ad66 121), .int 1, .ref (ad66 118)]) (As := []) (np := 0) E hK hI (s_B hclA hBs hI) hclA.2 (c_X6_init l D K66 sh ad66 cy X B H.size (hclA.mono (AZ_in hI hA)) hCl 121 (hmem 121 (by decide)) (shK_at hSh eK_121) (shK_at hSh eK_125) (hfr 125 (by decide)) G64 L51 O65 hOR h67) kyX6_init (by decide) u1_182 rfl (by decide) rfl hl.1 rfl (Nat.le_of_ble_eq_true rfl) ⟨by decide, by decide⟩ dX11_init_131) (fun ad70 sh1 H locs had70 hHy hI => ?_)
  replace hHy := hHy.symm
  subst hHy
  change W p l e _ s m _ below meth c _ _ _ _ _ (F0 m 134 ls [.ref (ad66 121), .int 1, .ref (ad66 118)])
  obtain ⟨K70, eK70⟩ : ∃ z, z = (K66 ++ [125]) := ⟨_, rfl⟩
  rw [← eK70] at hI
  have hin70 : ∀ b ∈ K66, b ∈ K70 := fun b hb => by rw [eK70]; exact (List.mem_append_left _ hb)
  have hk70_0 : 125 ∈ K70 := by rw [eK70]; exact (List.mem_append_right _ (List.mem_singleton.mpr rfl))
  have hr70_0 := had70 _ ((⟨hmem 121 (by decide), shK_at hSh eK_121⟩ : 121 ∈ K66 ∧ _)).1
  have hr70_1 := had70 _ ((⟨hmem 118 (by decide), shK_at hSh eK_118⟩ : 118 ∈ K66 ∧ _)).1
  have hr70_2 := had70 _ ((⟨hmem 100 (by decide), shK_at hSh eK_100⟩ : 100 ∈ K66 ∧ _)).1
  replace had : ∀ b ∈ K, ad70 b = ad b := fun b hb => (had70 b (hsub b hb)).trans (had b hb)
  replace hsub : ∀ b ∈ K, b ∈ K70 := fun b hb => hin70 b (hsub b hb)
  replace hcl : Bcl (AS K70 ad70 X) B := hclA.mono (AS_D hI.2.1)
  replace hn_tx : tx ∉ K70 := by rw [eK70]; exact (nin_push hn_tx (by omega))
  replace hn_tx1 : (tx + 1) ∉ K70 := by rw [eK70]; exact (nin_push hn_tx1 (by omega))
  replace hn_tx2 : (tx + 2) ∉ K70 := by rw [eK70]; exact (nin_push hn_tx2 (by omega))
  replace hn_tx3 : (tx + 3) ∉ K70 := by rw [eK70]; exact (nin_push hn_tx3 (by omega))
  replace hfr : ∀ e ∈ ([122, 126, 123, 127] : List Nat), e ∉ K70 := fun e he => by rw [eK70]; exact (nin_push (hfr e ((show ∀ e ∈ [122, 126, 123, 127], e ∈ [125, 122, 126, 123, 127] by decide +kernel) e he)) ((show ∀ e ∈ [122, 126, 123, 127], e ≠ 125 by decide +kernel) e he))
  have hnw70 : ∀ e ∈ ([125] : List Nat), e ∈ K70 := fun e he => by rw [eK70]; revert he; simp only [List.mem_append, List.mem_cons, List.not_mem_nil, or_false]; intro he; first | exact Or.inr he | (rcases he with h <;> simp [h])
  replace hmem : ∀ e ∈ ([125, 121, 124, 120, 138, 137, 129, 130, 131, 132, 133, 134, 135, 136, 128, 118, 117, 115, 116, 114, 113, 108, 109, 110, 111, 112, 107, 102, 103, 104, 105, 106, 101, 100] : List Nat), e ∈ K70 := fun e he => ((show ∀ e ∈ ([125, 121, 124, 120, 138, 137, 129, 130, 131, 132, 133, 134, 135, 136, 128, 118, 117, 115, 116, 114, 113, 108, 109, 110, 111, 112, 107, 102, 103, 104, 105, 106, 101, 100] : List Nat), e ∈ ([125] : List Nat) ∨ e ∈ ([121, 124, 120, 138, 137, 129, 130, 131, 132, 133, 134, 135, 136, 128, 118, 117, 115, 116, 114, 113, 108, 109, 110, 111, 112, 107, 102, 103, 104, 105, 106, 101, 100] : List Nat) by decide +kernel) e he).elim (fun h => hnw70 e h) (fun h => hin70 e (hmem e h))
  replace hOR := OR_X6_init (hOR.mono hin70) (hmem 125 (by decide)) h67
  replace hCl : Cl K70 sh := by rw [eK70]; exact (Cl.push hCl (by rw [(shK_at hSh eK_125)]; simp))
  rw [← hr70_2] at hl
  rw [← hr70_0, ← hr70_1]
  clear hin70 hk70_0 hr70_0 hr70_1 hr70_2 hnw70
  obtain ⟨O71, eO71, hf⟩ := bnd_i hf
  replace hOR := hOR.up (k := 118) (j := (1 : Int32).toNatClampNeg) ((⟨hmem 121 (by decide), shK_at hSh eK_121⟩ : 121 ∈ K70 ∧ _)).1
  rw [← eO71] at hOR
  refine s_ast (t := 8) (t0 := 7) (t2 := 0) (N := 0) E (by decide) rfl hK hI (⟨hmem 118 (by decide), shK_at hSh eK_118⟩ : 118 ∈ K70 ∧ _) (⟨hmem 121 (by decide), shK_at hSh eK_121⟩ : 121 ∈ K70 ∧ _) rfl (inB_i (by decide)) eO71 dX11_init_134 (fun H locs hI => ?_)
  refine lv_iinc (v := 2) (lv' := [(1, .int 2), (0, .ref (ad70 100))]) hx hb dX11_init_135 hl (k := 0) rfl (by decide) (by decide) rfl (fun ls hl => ?_)
  refine lv_goto (tgt := 117) hx hb dX11_init_138 (by decide) ?_
  refine lv_iload_n hx hb dX11_init_117 rfl (lv_at hl 0 rfl) ?_
  refine lv_iconst (v := 4) hx hb dX11_init_118 (by decide) ?_
  refine lv_icmp_ge (tgt := 141) hx hb dX11_init_119 (by decide) (fun c110 => absurd c110 (by decide)) (fun c110 => ?_)
  refine lv_aload_n hx hb dX11_init_122 rfl (lv_at hl 1 rfl) ?_
  obtain ⟨h72, hf⟩ := chk_i hf
  refine s_get (v := va_rf (Option.map ad70 (O71 100 8))) hx hb hu inU11 hown hK hI (⟨hmem 100 (by decide), shK_at hSh eK_100⟩ : 100 ∈ K70 ∧ _) rfl 8 (by decide) u2_183 (fun _ h => h) rfl rfl dX11_init_123 ?_
  refine s_nmO (of_decide_eq_true h72) ?_
  refine lv_iload_n hx hb dX11_init_126 rfl (lv_at hl 0 rfl) ?_
  obtain ⟨G73, eG73, hf⟩ := bnd_i hf
  obtain ⟨O74, eO74, hf⟩ := bnd_i hf
  refine s_newObj E inU6 tyX6_ok u1_119 u1_180 u1_6 hK hI hA rfl 122 (fr_of hCl hOR (hfr 122 (by decide))) (shK_at hSh eK_122) rfl (by decide +kernel) ⟨by decide, by decide⟩ dX11_init_127 (fun q H hI => ?_)
  rw [← eG73, ← eO74] at hI
  replace hOR := hOR.zr 122
  rw [← eO74] at hOR
  obtain ⟨K75, eK75⟩ : ∃ z, z = K70 ++ [122] := ⟨_, rfl⟩
  obtain ⟨ad75, ea75⟩ : ∃ z, z = adU ad70 122 q := ⟨_, rfl⟩
  rw [← eK75, ← ea75] at hI
  have hin75 : ∀ b ∈ K70, b ∈ K75 := fun b hb => by rw [eK75]; exact List.mem_append_left _ hb
  have hk75 : 122 ∈ K75 := by rw [eK75]; exact List.mem_append_right _ (List.mem_singleton.mpr rfl)
  have hq75 : q = ad75 122 := by rw [ea75]; exact adU_k.symm
  have had75 : ∀ b ∈ K70, ad75 b = ad70 b := fun b hb => by rw [ea75]; exact adU_in hb (hfr 122 (by decide))
  have hr75_0 := had75 _ ((⟨hmem 118 (by decide), shK_at hSh eK_118⟩ : 118 ∈ K70 ∧ _)).1
  have hr75_1 := had75 _ ((⟨hmem 100 (by decide), shK_at hSh eK_100⟩ : 100 ∈ K70 ∧ _)).1
  replace had : ∀ b ∈ K, ad75 b = ad b := fun b hb => (had75 b (hsub b hb)).trans (had b hb)
  replace hsub : ∀ b ∈ K, b ∈ K75 := fun b hb => hin75 b (hsub b hb)
  replace hcl : Bcl (AS K75 ad75 X) B := hclA.mono (AS_D hI.2.1)
  replace hn_tx : tx ∉ K75 := by rw [eK75]; exact nin_push hn_tx (by omega)
  replace hn_tx1 : (tx + 1) ∉ K75 := by rw [eK75]; exact nin_push hn_tx1 (by omega)
  replace hn_tx2 : (tx + 2) ∉ K75 := by rw [eK75]; exact nin_push hn_tx2 (by omega)
  replace hn_tx3 : (tx + 3) ∉ K75 := by rw [eK75]; exact nin_push hn_tx3 (by omega)
  replace hfr : ∀ e ∈ ([126, 123, 127] : List Nat), e ∉ K75 := fun e he => by rw [eK75]; exact (nin_push (hfr e ((show ∀ e ∈ [126, 123, 127], e ∈ [122, 126, 123, 127] by decide +kernel) e he)) ((show ∀ e ∈ [126, 123, 127], e ≠ 122 by decide +kernel) e he))
  have hnw75 : ∀ e ∈ ([122] : List Nat), e ∈ K75 := fun e he => by rw [eK75]; revert he; simp only [List.mem_append, List.mem_cons, List.not_mem_nil, or_false]; intro he; first | exact Or.inr he | (rcases he with h <;> simp [h])
  replace hmem : ∀ e ∈ ([122, 125, 121, 124, 120, 138, 137, 129, 130, 131, 132, 133, 134, 135, 136, 128, 118, 117, 115, 116, 114, 113, 108, 109, 110, 111, 112, 107, 102, 103, 104, 105, 106, 101, 100] : List Nat), e ∈ K75 := fun e he => ((show ∀ e ∈ ([122, 125, 121, 124, 120, 138, 137, 129, 130, 131, 132, 133, 134, 135, 136, 128, 118, 117, 115, 116, 114, 113, 108, 109, 110, 111, 112, 107, 102, 103, 104, 105, 106, 101, 100] : List Nat), e ∈ ([122] : List Nat) ∨ e ∈ ([125, 121, 124, 120, 138, 137, 129, 130, 131, 132, 133, 134, 135, 136, 128, 118, 117, 115, 116, 114, 113, 108, 109, 110, 111, 112, 107, 102, 103, 104, 105, 106, 101, 100] : List Nat) by decide +kernel) e he).elim (fun h => hnw75 e h) (fun h => hin75 e (hmem e h))
  replace hCl : Cl K75 sh := by rw [eK75]; exact hCl.push (by rw [shK_at hSh eK_122]; simp)
  replace hOR : ORf K75 O74 := hOR.mono hin75
  rw [← hr75_1] at hl
  rw [hq75, ← hr75_0]
  clear ea75 hin75 hk75 hq75 had75 hr75_0 hr75_1 hnw75
  refine lv_dup hx hb dX11_init_130 rfl ?_
  obtain ⟨G77, O78, h76, hf⟩ := bndP_i hf
  refine s_afZ hA hI (s_runINz (host := RX11) (rest := [.ref (ad75 122), .int 2, .ref (ad75 118)]) (As := []) (np := 0) E hK hI (s_B hclA hBs hI) hclA.2 (c_X6_init l D K75 sh ad75 cy X B H.size (hclA.mono (AZ_in hI hA)) hCl 122 (hmem 122 (by decide)) (shK_at hSh eK_122) (shK_at hSh eK_126) (hfr 126 (by decide)) G73 L51 O74 hOR h76) kyX6_init (by decide) u1_182 rfl (by decide) rfl hl.1 rfl (Nat.le_of_ble_eq_true rfl) ⟨by decide, by decide⟩ dX11_init_131) (fun ad79 sh1 H locs had79 hHy hI => ?_)
  replace hHy := hHy.symm
  subst hHy
  change W p l e _ s m _ below meth c _ _ _ _ _ (F0 m 134 ls [.ref (ad75 122), .int 2, .ref (ad75 118)])
  obtain ⟨K79, eK79⟩ : ∃ z, z = (K75 ++ [126]) := ⟨_, rfl⟩
  rw [← eK79] at hI
  have hin79 : ∀ b ∈ K75, b ∈ K79 := fun b hb => by rw [eK79]; exact (List.mem_append_left _ hb)
  have hk79_0 : 126 ∈ K79 := by rw [eK79]; exact (List.mem_append_right _ (List.mem_singleton.mpr rfl))
  have hr79_0 := had79 _ ((⟨hmem 122 (by decide), shK_at hSh eK_122⟩ : 122 ∈ K75 ∧ _)).1
  have hr79_1 := had79 _ ((⟨hmem 118 (by decide), shK_at hSh eK_118⟩ : 118 ∈ K75 ∧ _)).1
  have hr79_2 := had79 _ ((⟨hmem 100 (by decide), shK_at hSh eK_100⟩ : 100 ∈ K75 ∧ _)).1
  replace had : ∀ b ∈ K, ad79 b = ad b := fun b hb => (had79 b (hsub b hb)).trans (had b hb)
  replace hsub : ∀ b ∈ K, b ∈ K79 := fun b hb => hin79 b (hsub b hb)
  replace hcl : Bcl (AS K79 ad79 X) B := hclA.mono (AS_D hI.2.1)
  replace hn_tx : tx ∉ K79 := by rw [eK79]; exact (nin_push hn_tx (by omega))
  replace hn_tx1 : (tx + 1) ∉ K79 := by rw [eK79]; exact (nin_push hn_tx1 (by omega))
  replace hn_tx2 : (tx + 2) ∉ K79 := by rw [eK79]; exact (nin_push hn_tx2 (by omega))
  replace hn_tx3 : (tx + 3) ∉ K79 := by rw [eK79]; exact (nin_push hn_tx3 (by omega))
  replace hfr : ∀ e ∈ ([123, 127] : List Nat), e ∉ K79 := fun e he => by rw [eK79]; exact (nin_push (hfr e ((show ∀ e ∈ [123, 127], e ∈ [126, 123, 127] by decide +kernel) e he)) ((show ∀ e ∈ [123, 127], e ≠ 126 by decide +kernel) e he))
  have hnw79 : ∀ e ∈ ([126] : List Nat), e ∈ K79 := fun e he => by rw [eK79]; revert he; simp only [List.mem_append, List.mem_cons, List.not_mem_nil, or_false]; intro he; first | exact Or.inr he | (rcases he with h <;> simp [h])
  replace hmem : ∀ e ∈ ([126, 122, 125, 121, 124, 120, 138, 137, 129, 130, 131, 132, 133, 134, 135, 136, 128, 118, 117, 115, 116, 114, 113, 108, 109, 110, 111, 112, 107, 102, 103, 104, 105, 106, 101, 100] : List Nat), e ∈ K79 := fun e he => ((show ∀ e ∈ ([126, 122, 125, 121, 124, 120, 138, 137, 129, 130, 131, 132, 133, 134, 135, 136, 128, 118, 117, 115, 116, 114, 113, 108, 109, 110, 111, 112, 107, 102, 103, 104, 105, 106, 101, 100] : List Nat), e ∈ ([126] : List Nat) ∨ e ∈ ([122, 125, 121, 124, 120, 138, 137, 129, 130, 131, 132, 133, 134, 135, 136, 128, 118, 117, 115, 116, 114, 113, 108, 109, 110, 111, 112, 107, 102, 103, 104, 105, 106, 101, 100] : List Nat) by decide +kernel) e he).elim (fun h => hnw79 e h) (fun h => hin79 e (hmem e h))
  replace hOR := OR_X6_init (hOR.mono hin79) (hmem 126 (by decide)) h76
  replace hCl : Cl K79 sh := by rw [eK79]; exact (Cl.push hCl (by rw [(shK_at hSh eK_126)]; simp))
  rw [← hr79_2] at hl
  rw [← hr79_0, ← hr79_1]
  clear hin79 hk79_0 hr79_0 hr79_1 hr79_2 hnw79
  obtain ⟨O80, eO80, hf⟩ := bnd_i hf
  replace hOR := hOR.up (k := 118) (j := (2 : Int32).toNatClampNeg) ((⟨hmem 122 (by decide), shK_at hSh eK_122⟩ : 122 ∈ K79 ∧ _)).1
  rw [← eO80] at hOR
  refine s_ast (t := 8) (t0 := 7) (t2 := 0) (N := 0) E (by decide) rfl hK hI (⟨hmem 118 (by decide), shK_at hSh eK_118⟩ : 118 ∈ K79 ∧ _) (⟨hmem 122 (by decide), shK_at hSh eK_122⟩ : 122 ∈ K79 ∧ _) rfl (inB_i (by decide)) eO80 dX11_init_134 (fun H locs hI => ?_)
  refine lv_iinc (v := 3) (lv' := [(1, .int 3), (0, .ref (ad79 100))]) hx hb dX11_init_135 hl (k := 0) rfl (by decide) (by decide) rfl (fun ls hl => ?_)
  refine lv_goto (tgt := 117) hx hb dX11_init_138 (by decide) ?_
  refine lv_iload_n hx hb dX11_init_117 rfl (lv_at hl 0 rfl) ?_
  refine lv_iconst (v := 4) hx hb dX11_init_118 (by decide) ?_
  refine lv_icmp_ge (tgt := 141) hx hb dX11_init_119 (by decide) (fun c109 => absurd c109 (by decide)) (fun c109 => ?_)
  refine lv_aload_n hx hb dX11_init_122 rfl (lv_at hl 1 rfl) ?_
  obtain ⟨h81, hf⟩ := chk_i hf
  refine s_get (v := va_rf (Option.map ad79 (O80 100 8))) hx hb hu inU11 hown hK hI (⟨hmem 100 (by decide), shK_at hSh eK_100⟩ : 100 ∈ K79 ∧ _) rfl 8 (by decide) u2_183 (fun _ h => h) rfl rfl dX11_init_123 ?_
  refine s_nmO (of_decide_eq_true h81) ?_
  refine lv_iload_n hx hb dX11_init_126 rfl (lv_at hl 0 rfl) ?_
  obtain ⟨G82, eG82, hf⟩ := bnd_i hf
  obtain ⟨O83, eO83, hf⟩ := bnd_i hf
  refine s_newObj E inU6 tyX6_ok u1_119 u1_180 u1_6 hK hI hA rfl 123 (fr_of hCl hOR (hfr 123 (by decide))) (shK_at hSh eK_123) rfl (by decide +kernel) ⟨by decide, by decide⟩ dX11_init_127 (fun q H hI => ?_)
  rw [← eG82, ← eO83] at hI
  replace hOR := hOR.zr 123
  rw [← eO83] at hOR
  obtain ⟨K84, eK84⟩ : ∃ z, z = K79 ++ [123] := ⟨_, rfl⟩
  obtain ⟨ad84, ea84⟩ : ∃ z, z = adU ad79 123 q := ⟨_, rfl⟩
  rw [← eK84, ← ea84] at hI
  have hin84 : ∀ b ∈ K79, b ∈ K84 := fun b hb => by rw [eK84]; exact List.mem_append_left _ hb
  have hk84 : 123 ∈ K84 := by rw [eK84]; exact List.mem_append_right _ (List.mem_singleton.mpr rfl)
  have hq84 : q = ad84 123 := by rw [ea84]; exact adU_k.symm
  have had84 : ∀ b ∈ K79, ad84 b = ad79 b := fun b hb => by rw [ea84]; exact adU_in hb (hfr 123 (by decide))
  have hr84_0 := had84 _ ((⟨hmem 118 (by decide), shK_at hSh eK_118⟩ : 118 ∈ K79 ∧ _)).1
  have hr84_1 := had84 _ ((⟨hmem 100 (by decide), shK_at hSh eK_100⟩ : 100 ∈ K79 ∧ _)).1
  replace had : ∀ b ∈ K, ad84 b = ad b := fun b hb => (had84 b (hsub b hb)).trans (had b hb)
  replace hsub : ∀ b ∈ K, b ∈ K84 := fun b hb => hin84 b (hsub b hb)
  replace hcl : Bcl (AS K84 ad84 X) B := hclA.mono (AS_D hI.2.1)
  replace hn_tx : tx ∉ K84 := by rw [eK84]; exact nin_push hn_tx (by omega)
  replace hn_tx1 : (tx + 1) ∉ K84 := by rw [eK84]; exact nin_push hn_tx1 (by omega)
  replace hn_tx2 : (tx + 2) ∉ K84 := by rw [eK84]; exact nin_push hn_tx2 (by omega)
  replace hn_tx3 : (tx + 3) ∉ K84 := by rw [eK84]; exact nin_push hn_tx3 (by omega)
  replace hfr : ∀ e ∈ ([127] : List Nat), e ∉ K84 := fun e he => by rw [eK84]; exact (nin_push (hfr e ((show ∀ e ∈ [127], e ∈ [123, 127] by decide +kernel) e he)) ((show ∀ e ∈ [127], e ≠ 123 by decide +kernel) e he))
  have hnw84 : ∀ e ∈ ([123] : List Nat), e ∈ K84 := fun e he => by rw [eK84]; revert he; simp only [List.mem_append, List.mem_cons, List.not_mem_nil, or_false]; intro he; first | exact Or.inr he | (rcases he with h <;> simp [h])
  replace hmem : ∀ e ∈ ([123, 126, 122, 125, 121, 124, 120, 138, 137, 129, 130, 131, 132, 133, 134, 135, 136, 128, 118, 117, 115, 116, 114, 113, 108, 109, 110, 111, 112, 107, 102, 103, 104, 105, 106, 101, 100] : List Nat), e ∈ K84 := fun e he => ((show ∀ e ∈ ([123, 126, 122, 125, 121, 124, 120, 138, 137, 129, 130, 131, 132, 133, 134, 135, 136, 128, 118, 117, 115, 116, 114, 113, 108, 109, 110, 111, 112, 107, 102, 103, 104, 105, 106, 101, 100] : List Nat), e ∈ ([123] : List Nat) ∨ e ∈ ([126, 122, 125, 121, 124, 120, 138, 137, 129, 130, 131, 132, 133, 134, 135, 136, 128, 118, 117, 115, 116, 114, 113, 108, 109, 110, 111, 112, 107, 102, 103, 104, 105, 106, 101, 100] : List Nat) by decide +kernel) e he).elim (fun h => hnw84 e h) (fun h => hin84 e (hmem e h))
  replace hCl : Cl K84 sh := by rw [eK84]; exact hCl.push (by rw [shK_at hSh eK_123]; simp)
  replace hOR : ORf K84 O83 := hOR.mono hin84
  rw [← hr84_1] at hl
  rw [hq84, ← hr84_0]
  clear ea84 hin84 hk84 hq84 had84 hr84_0 hr84_1 hnw84
  refine lv_dup hx hb dX11_init_130 rfl ?_
  obtain ⟨G86, O87, h85, hf⟩ := bndP_i hf
  refine s_afZ hA hI (s_runINz (host := RX11) (rest := [.ref (ad84 123), .int 3, .ref (ad84 118)]) (As := []) (np := 0) E hK hI (s_B hclA hBs hI) hclA.2 (c_X6_init l D K84 sh ad84 cy X B H.size (hclA.mono (AZ_in hI hA)) hCl 123 (hmem 123 (by decide)) (shK_at hSh eK_123) (shK_at hSh eK_127) (hfr 127 (by decide)) G82 L51 O83 hOR h85) kyX6_init (by decide) u1_182 rfl (by decide) rfl hl.1 rfl (Nat.le_of_ble_eq_true rfl) ⟨by decide, by decide⟩ dX11_init_131) (fun ad88 sh1 H locs had88 hHy hI => ?_)
  replace hHy := hHy.symm
  subst hHy
  change W p l e _ s m _ below meth c _ _ _ _ _ (F0 m 134 ls [.ref (ad84 123), .int 3, .ref (ad84 118)])
  obtain ⟨K88, eK88⟩ : ∃ z, z = (K84 ++ [127]) := ⟨_, rfl⟩
  rw [← eK88] at hI
  have hin88 : ∀ b ∈ K84, b ∈ K88 := fun b hb => by rw [eK88]; exact (List.mem_append_left _ hb)
  have hk88_0 : 127 ∈ K88 := by rw [eK88]; exact (List.mem_append_right _ (List.mem_singleton.mpr rfl))
  have hr88_0 := had88 _ ((⟨hmem 123 (by decide), shK_at hSh eK_123⟩ : 123 ∈ K84 ∧ _)).1
  have hr88_1 := had88 _ ((⟨hmem 118 (by decide), shK_at hSh eK_118⟩ : 118 ∈ K84 ∧ _)).1
  have hr88_2 := had88 _ ((⟨hmem 100 (by decide), shK_at hSh eK_100⟩ : 100 ∈ K84 ∧ _)).1
  replace had : ∀ b ∈ K, ad88 b = ad b := fun b hb => (had88 b (hsub b hb)).trans (had b hb)
  replace hsub : ∀ b ∈ K, b ∈ K88 := fun b hb => hin88 b (hsub b hb)
  replace hcl : Bcl (AS K88 ad88 X) B := hclA.mono (AS_D hI.2.1)
  replace hn_tx : tx ∉ K88 := by rw [eK88]; exact (nin_push hn_tx (by omega))
  replace hn_tx1 : (tx + 1) ∉ K88 := by rw [eK88]; exact (nin_push hn_tx1 (by omega))
  replace hn_tx2 : (tx + 2) ∉ K88 := by rw [eK88]; exact (nin_push hn_tx2 (by omega))
  replace hn_tx3 : (tx + 3) ∉ K88 := by rw [eK88]; exact (nin_push hn_tx3 (by omega))
  have hnw88 : ∀ e ∈ ([127] : List Nat), e ∈ K88 := fun e he => by rw [eK88]; revert he; simp only [List.mem_append, List.mem_cons, List.not_mem_nil, or_false]; intro he; first | exact Or.inr he | (rcases he with h <;> simp [h])
  replace hmem : ∀ e ∈ ([127, 123, 126, 122, 125, 121, 124, 120, 138, 137, 129, 130, 131, 132, 133, 134, 135, 136, 128, 118, 117, 115, 116, 114, 113, 108, 109, 110, 111, 112, 107, 102, 103, 104, 105, 106, 101, 100] : List Nat), e ∈ K88 := fun e he => ((show ∀ e ∈ ([127, 123, 126, 122, 125, 121, 124, 120, 138, 137, 129, 130, 131, 132, 133, 134, 135, 136, 128, 118, 117, 115, 116, 114, 113, 108, 109, 110, 111, 112, 107, 102, 103, 104, 105, 106, 101, 100] : List Nat), e ∈ ([127] : List Nat) ∨ e ∈ ([123, 126, 122, 125, 121, 124, 120, 138, 137, 129, 130, 131, 132, 133, 134, 135, 136, 128, 118, 117, 115, 116, 114, 113, 108, 109, 110, 111, 112, 107, 102, 103, 104, 105, 106, 101, 100] : List Nat) by decide +kernel) e he).elim (fun h => hnw88 e h) (fun h => hin88 e (hmem e h))
  replace hOR := OR_X6_init (hOR.mono hin88) (hmem 127 (by decide)) h85
  replace hCl : Cl K88 sh := by rw [eK88]; exact (Cl.push hCl (by rw [(shK_at hSh eK_127)]; simp))
  rw [← hr88_2] at hl
  rw [← hr88_0, ← hr88_1]
  clear hin88 hk88_0 hr88_0 hr88_1 hr88_2 hnw88
  obtain ⟨O89, eO89, hf⟩ := bnd_i hf
  replace hOR := hOR.up (k := 118) (j := (3 : Int32).toNatClampNeg) ((⟨hmem 123 (by decide), shK_at hSh eK_123⟩ : 123 ∈ K88 ∧ _)).1
  rw [← eO89] at hOR
  refine s_ast (t := 8) (t0 := 7) (t2 := 0) (N := 0) E (by decide) rfl hK hI (⟨hmem 118 (by decide), shK_at hSh eK_118⟩ : 118 ∈ K88 ∧ _) (⟨hmem 123 (by decide), shK_at hSh eK_123⟩ : 123 ∈ K88 ∧ _) rfl (inB_i (by decide)) eO89 dX11_init_134 (fun H locs hI => ?_)
  refine lv_iinc (v := 4) (lv' := [(1, .int 4), (0, .ref (ad88 100))]) hx hb dX11_init_135 hl (k := 0) rfl (by decide) (by decide) rfl (fun ls hl => ?_)
  refine lv_goto (tgt := 117) hx hb dX11_init_138 (by decide) ?_
  refine lv_iload_n hx hb dX11_init_117 rfl (lv_at hl 0 rfl) ?_
  refine lv_iconst (v := 4) hx hb dX11_init_118 (by decide) ?_
  refine lv_icmp_ge (tgt := 141) hx hb dX11_init_119 (by decide) (fun c108 => ?_) (fun c108 => absurd (by decide) c108)
  obtain ⟨h90, hf⟩ := chk_i hf
  refine W.widen (k := 37) (n := 1370) (by decide) (by decide) ?_
  replace hE : HC S00 K88 (shFin sh) := HC_in hSh (fun q hq => hmem _ ((show ∀ q ∈ shC, q.1 ∈ ([127, 123, 126, 122, 125, 121, 124, 120, 138, 137, 129, 130, 131, 132, 133, 134, 135, 136, 128, 118, 117, 115, 116, 114, 113, 108, 109, 110, 111, 112, 107, 102, 103, 104, 105, 106, 101, 100] : List Nat) by decide) q hq))
  replace hI : IS D K88 (shFin sh) ad88 cy X A0 s.heap H locs G86 L51 O89 := IS_sh (fun k _ => conv_in hSh h90 k) hI
  replace hSB : ∀ U : State, B U → SB adK adV (AS K88 ad88 X) U := fun U h => SB_nar (hSBA U h) (AS_D hI.2.1)
  have hsh_tx : shFin sh tx = (0, 9, [1, 1, 1]) := by rw [shFin_n (by omega)]; exact hsh_tx
  have hsh_tx1 : shFin sh (tx + 1) = (1, ln, []) := by rw [shFin_n (by omega)]; exact hsh_tx1
  have hsh_tx2 : shFin sh (tx + 2) = (1, 3, []) := by rw [shFin_n (by omega)]; exact hsh_tx2
  have hsh_tx3 : shFin sh (tx + 3) = (1, 32, []) := by rw [shFin_n (by omega)]; exact hsh_tx3
  replace hCl : Cl K88 (shFin sh) := Cl_in hSh hCl (fun q hq => hE.1 q hq |>.1)
  obtain ⟨shF, eshF⟩ : ∃ z, z = shFin sh := ⟨_, rfl⟩
  rw [← eshF] at hE hI hsh_tx hsh_tx1 hsh_tx2 hsh_tx3 hCl
  have B143 : ∀   (n : Nat) (G : Mem) (L : MemL) (O : MemO) (x1 : Int32) (H : Heap) (locs : List Loc) (ls : Array Slot), lv_has ls 2 [(0, .ref (ad88 100)), (1, .int x1)] → IS D K88 shF ad88 cy X A0 s.heap H locs G L O → ORf K88 O → iter (q_X11_init_143 tx ln) n (G, L, O, x1) = some (Sz, Gz, Lz, Oz) → W p l e (rmX 70 41 1568) s m args below meth c H locs 37 1370 (MQ below (QZ D K ad cy X A0 (((((((((((((((((((((((((((((((((((((((((K ++ [101]) ++ [102]) ++ [103]) ++ [104]) ++ [105]) ++ [106]) ++ [107]) ++ [108]) ++ [109]) ++ [110]) ++ [111]) ++ [112]) ++ [113]) ++ [114]) ++ [115]) ++ [116]) ++ [117]) ++ [118]) ++ [128]) ++ [129]) ++ [130]) ++ [131]) ++ [132]) ++ [133]) ++ [134]) ++ [135]) ++ [136]) ++ [137]) ++ [138]) ++ [120]) ++ [124]) ++ [121]) ++ [125]) ++ [122]) ++ [126]) ++ [123]) ++ [127]) ++ [tx + 2]) ++ [tx]) ++ [tx + 1]) ++ [tx + 3]) (fun z => z = shT (shFin sh) tx) Gz Lz Oz (fun _ => none)) args s 41 1568 A0) (F0 m 143 ls []) := by
    intro n
    induction n with
    | zero => intro G L O x1 H locs ls hl hI hOR hf; exact iter_0 hf
    | succ n ih =>
      intro G L O x1 H locs ls hl hI hOR hf
      have hf : q_X11_init_143 tx ln (iter (q_X11_init_143 tx ln) n) (G, L, O, x1) = some (Sz, Gz, Lz, Oz) := hf
      rw [q_X11_init_143] at hf
      refine lv_iload_n hx hb dX11_init_143 rfl (lv_at hl 1 rfl) ?_
      refine va_ldcS hx hb hown (hSB _ hBs).2.1 dX11_init_144 ?_
      refine s_afI hI (s_runT (rest := [.int x1]) (As := []) (np := 0) E hK hI (s_B hclA hBs hI) hcl.2 (vk_recv (hSBA _ hBs).1 (by decide) hI.2.2) (c_J0_length_8abf5 l D K88 shF ad88 cy X B hcl adK adV hSB 0 (by decide) G L O  rfl) kyJ0_length_8abf5 u1_201 u1_202 u1_203 (by decide) rfl hl.1 rfl (Nat.le_of_ble_eq_true rfl) ⟨by decide, by decide⟩ dX11_init_146) (fun H locs hI => ?_)
      refine lv_icmp_ge (tgt := 171) hx hb dX11_init_149 (by decide) (fun c91 => ?_) (fun c91 => ?_)
      · have hf := ite_t c91 hf
        refine lv_aload_n hx hb dX11_init_171 rfl (lv_at hl 0 rfl) ?_
        refine lv_aload_n hx hb dX11_init_172 rfl (lv_at hl 0 rfl) ?_
        refine s_get (v := .ref (ad88 114)) hx hb hu inU11 hown hK hI (mE hE.1 eC_100) rfl 5 (by decide) u2_180 (fun _ h => h) rfl rfl dX11_init_173 ?_
        obtain ⟨G92, O93, n94, h95, hf⟩ := bndP3_i hf
        replace hf := chk_i hf
        obtain ⟨h96, hf⟩ := hf
        replace h96 := of_decide_eq_true h96
        subst h96
        refine s_afZ hA hI (s_runVz (rest := [.ref (ad88 100)]) (As := []) (np := 0) E hK hI (s_B hclA hBs hI) hclA.2 (mE hE.1 eC_114) rfl (c_compiled1 l D K88 shF ad88 cy X B H.size (hclA.mono (AZ_in hI hA)) hCl S00 hE adK adV (fun U h => SB_nar (hSBA U h) (AZ_in hI hA)) G L O tx ln hsh_tx hsh_tx1 hsh_tx2 hsh_tx3 hn_tx hn_tx1 hn_tx2 hn_tx3 hOR h95) kyX5_compiled u2_13 u2_14 u2_15 (by decide) rfl hl.1 rfl (Nat.le_of_ble_eq_true rfl) ⟨by decide, by decide⟩ dX11_init_176) (fun ad97 sh1 H locs had97 hHy hI => ?_)
        change W p l e _ s m _ below meth c _ _ _ _ _ (F0 m 179 ls [.ref (ad97 tx), .ref (ad88 100)])
        obtain ⟨K97, eK97⟩ : ∃ z, z = ((((K88 ++ [tx + 2]) ++ [tx]) ++ [tx + 1]) ++ [tx + 3]) := ⟨_, rfl⟩
        replace hI : IS D K97 sh1 ad97 cy X A0 s.heap H locs G92 L O93 := by rw [eK97]; exact hI
        have hin97 : ∀ b ∈ K88, b ∈ K97 := fun b hb => by rw [eK97]; exact (List.mem_append_left _ (List.mem_append_left _ (List.mem_append_left _ (List.mem_append_left _ hb))))
        have hk97_0 : (tx + 2) ∈ K97 := by rw [eK97]; exact (List.mem_append_left _ (List.mem_append_left _ (List.mem_append_left _ (List.mem_append_right _ (List.mem_singleton.mpr rfl)))))
        have hk97_1 : tx ∈ K97 := by rw [eK97]; exact (List.mem_append_left _ (List.mem_append_left _ (List.mem_append_right _ (List.mem_singleton.mpr rfl))))
        have hk97_2 : (tx + 1) ∈ K97 := by rw [eK97]; exact (List.mem_append_left _ (List.mem_append_right _ (List.mem_singleton.mpr rfl)))
        have hk97_3 : (tx + 3) ∈ K97 := by rw [eK97]; exact (List.mem_append_right _ (List.mem_singleton.mpr rfl))
        have hr97_0 := had97 _ ((mE hE.1 eC_100)).1
        replace had : ∀ b ∈ K, ad97 b = ad b := fun b hb => (had97 b (hsub b hb)).trans (had b hb)
        replace hsub : ∀ b ∈ K, b ∈ K97 := fun b hb => hin97 b (hsub b hb)
        replace hcl : Bcl (AS K97 ad97 X) B := hclA.mono (AS_D hI.2.1)
        replace hE : HC (stx S00 tx ln) K97 sh1 := by rw [hHy]; exact HC_tx hE htx0 hin97 hk97_1 hk97_2 hk97_0 hk97_3 hsh_tx1 hsh_tx2 hsh_tx3
        replace hSB : ∀ U : State, B U → SB adK adV (AS K97 ad97 X) U := fun U h => SB_nar (hSBA U h) (AS_D hI.2.1)
        have htx : txE (stx S00 tx ln) tx = true := stx_E htx0
        rw [← hr97_0] at hl
        rw [← hr97_0]
        clear hin97 hk97_0 hk97_1 hk97_2 hk97_3 hr97_0
        obtain ⟨G98, O99, h100, hf⟩ := bndP_i hf
        refine s_afV hI (s_runV (rest := []) (As := [.ref (ad97 tx)]) (np := 1) E hK hI (s_B hclA hBs hI) hcl.2 (mE hE.1 eC_100) rfl (c_X11_keepText l D K97 sh1 ad97 cy X B hcl (stx S00 tx ln) hE tx htx G92 L O93  h100) kyX11_keepText u2_167 u2_169 up_14 (by decide) rfl hl.1 rfl (Nat.le_of_ble_eq_true rfl) ⟨by decide, by decide⟩ dX11_init_179) (fun H locs hI => ?_)
        refine lv_aload_n hx hb dX11_init_182 rfl (lv_at hl 0 rfl) ?_
        refine s_get (v := .ref (ad97 114)) hx hb hu inU11 hown hK hI (mE hE.1 eC_100) rfl 5 (by decide) u2_180 (fun _ h => h) rfl rfl dX11_init_183 ?_
        obtain ⟨G101, h102, hf⟩ := bndO_i hf
        refine s_afV hI (s_runV (rest := []) (As := []) (np := 0) E hK hI (s_B hclA hBs hI) hcl.2 (mE hE.1 eC_114) rfl (c_X5_clear l D K97 sh1 ad97 cy X B hcl (stx S00 tx ln) hE G98 L O99  h102) kyX5_clear u2_171 u2_172 u2_173 (by decide) rfl hl.1 rfl (Nat.le_of_ble_eq_true rfl) ⟨by decide, by decide⟩ dX11_init_186) (fun H locs hI => ?_)
        cases hf
        subst eK97
        subst eK88
        subst eK84
        subst eK79
        subst eK75
        subst eK70
        subst eK66
        subst eK61
        subst eK57
        subst eK52
        subst eK49
        subst eK46
        subst eK39
        subst eK35
        subst eK31
        subst eK28
        subst eK24
        subst eK19
        subst eK15
        subst eK11
        subst eK7
        subst eK3
        refine W.widen (k := 41) (n := 1568) (by decide) (by decide) ?_
        exact s_vretZ E had (hHy.trans (by rw [eshF])) rfl hI dX11_init_189
      · have hf := ite_f c91 hf
        refine lv_aload_n hx hb dX11_init_152 rfl (lv_at hl 0 rfl) ?_
        refine s_get (v := .ref (ad88 114)) hx hb hu inU11 hown hK hI (mE hE.1 eC_100) rfl 5 (by decide) u2_180 (fun _ h => h) rfl rfl dX11_init_153 ?_
        refine va_ldcS hx hb hown (hSB _ hBs).2.1 dX11_init_156 ?_
        refine lv_iload_n hx hb dX11_init_158 rfl (lv_at hl 1 rfl) ?_
        obtain ⟨v104, h103, hf⟩ := bndO_i hf
        refine s_afI hI (s_runT (rest := [.ref (ad88 114)]) (As := [.int x1]) (np := 1) E hK hI (s_B hclA hBs hI) hcl.2 (vk_recv (hSBA _ hBs).1 (by decide) hI.2.2) (c_J0_charAt_5068e l D K88 shF ad88 cy X B hcl adK adV hSB 0 (by decide) G L O x1 h103) kyJ0_charAt_5068e u1_211 u1_212 u1_213 (by decide) rfl hl.1 rfl (Nat.le_of_ble_eq_true rfl) ⟨by decide, by decide⟩ dX11_init_159) (fun H locs hI => ?_)
        obtain ⟨G105, h106, hf⟩ := bndO_i hf
        refine s_afV hI (s_runV (rest := []) (As := [.int v104]) (np := 1) E hK hI (s_B hclA hBs hI) hcl.2 (mE hE.1 eC_114) rfl (c_X5_put l D K88 shF ad88 cy X B hcl S00 hE G L O v104 h106) kyX5_put u2_9 u2_10 u2_11 (by decide) rfl hl.1 rfl (Nat.le_of_ble_eq_true rfl) ⟨by decide, by decide⟩ dX11_init_162) (fun H locs hI => ?_)
        obtain ⟨x1_107, ex1_107, hf⟩ := bnd_i hf
        refine lv_iinc (v := x1_107) (lv' := [(1, .int x1_107), (0, .ref (ad88 100))]) hx hb dX11_init_165 hl (k := 1) rfl (by rw [ex1_107]; rfl) (by decide) rfl (fun ls hl => ?_)
        refine lv_goto (tgt := 143) hx hb dX11_init_168 (by decide) ?_
        exact ih G105 L O x1_107 H locs ls (lv_sub hl [1, 0] rfl) hI hOR hf
  refine lv_iconst (v := 0) hx hb dX11_init_141 (by decide) ?_
  refine lv_istore_n (lv' := [(1, .int 0), (0, .ref (ad88 100))]) hx hb dX11_init_142 rfl hl (by decide) rfl (fun ls hl => ?_)
  exact B143   fuel G86 L51 O89 0 H locs ls (lv_sub hl [1, 0] rfl) hI hOR hf
