def flM : List Nat := [0, 0, 0, 3, 4, 5, 6, 0, 7, 8, 9, 10, 11, 12, 0, 0, 0, 13, 14, 15, 0, 0, 0, 0, 0, 0, 0, 16, 17, 18, 19, 20, 21, 22, 23, 24, 0, 0, 0, 0, 0, 25, 26, 27, 0, 0, 0, 0, 0, 28, 29, 30, 31, 32, 33, 34, 35, 36]
def shM : List (Nat × Ent) := [(0, (0, 12, flM)), (1, (1, 48, [])), (2, (1, 48, [])), (3, (1, 48, [])), (4, (1, 4, [])), (5, (1, 10, [])), (6, (1, 10, [])), (7, (1, 10, [])), (8, (1, 10, [])), (9, (1, 10, [])), (10, (2, 160, [])), (11, (1, 1190, [])), (12, (1, 1190, [])), (13, (1, 21, [])), (14, (1, 170, [])), (15, (1, 6, [])), (16, (1, 63, [])), (17, (1, 12, [])), (18, (1, 10, [])), (19, (1, 10, [])), (20, (1, 10, [])), (21, (3, 10, [])), (22, (3, 10, [])), (23, (1, 4, [])), (24, (1, 2000, [])), (25, (1, 2000, [])), (26, (1, 48, [])), (27, (1, 48, [])), (28, (1, 48, [])), (29, (1, 4, [])), (30, (1, 10, [])), (31, (1, 4, [])), (32, (1, 4, [])), (33, (1, 160, [])), (34, (1, 40, []))]
theorem eM_0 : ((0, (0, 12, flM)) : Nat × Ent) ∈ shM := List.mem_of_getElem? (i := 0) rfl
theorem eM_1 : ((1, (1, 48, [])) : Nat × Ent) ∈ shM := List.mem_of_getElem? (i := 1) rfl
theorem eM_2 : ((2, (1, 48, [])) : Nat × Ent) ∈ shM := List.mem_of_getElem? (i := 2) rfl
theorem eM_3 : ((3, (1, 48, [])) : Nat × Ent) ∈ shM := List.mem_of_getElem? (i := 3) rfl
theorem eM_4 : ((4, (1, 4, [])) : Nat × Ent) ∈ shM := List.mem_of_getElem? (i := 4) rfl
theorem eM_5 : ((5, (1, 10, [])) : Nat × Ent) ∈ shM := List.mem_of_getElem? (i := 5) rfl
theorem eM_6 : ((6, (1, 10, [])) : Nat × Ent) ∈ shM := List.mem_of_getElem? (i := 6) rfl
theorem eM_7 : ((7, (1, 10, [])) : Nat × Ent) ∈ shM := List.mem_of_getElem? (i := 7) rfl
theorem eM_8 : ((8, (1, 10, [])) : Nat × Ent) ∈ shM := List.mem_of_getElem? (i := 8) rfl
theorem eM_9 : ((9, (1, 10, [])) : Nat × Ent) ∈ shM := List.mem_of_getElem? (i := 9) rfl
theorem eM_10 : ((10, (2, 160, [])) : Nat × Ent) ∈ shM := List.mem_of_getElem? (i := 10) rfl
theorem eM_11 : ((11, (1, 1190, [])) : Nat × Ent) ∈ shM := List.mem_of_getElem? (i := 11) rfl
theorem eM_12 : ((12, (1, 1190, [])) : Nat × Ent) ∈ shM := List.mem_of_getElem? (i := 12) rfl
theorem eM_13 : ((13, (1, 21, [])) : Nat × Ent) ∈ shM := List.mem_of_getElem? (i := 13) rfl
theorem eM_14 : ((14, (1, 170, [])) : Nat × Ent) ∈ shM := List.mem_of_getElem? (i := 14) rfl
theorem eM_15 : ((15, (1, 6, [])) : Nat × Ent) ∈ shM := List.mem_of_getElem? (i := 15) rfl
theorem eM_16 : ((16, (1, 63, [])) : Nat × Ent) ∈ shM := List.mem_of_getElem? (i := 16) rfl
theorem eM_17 : ((17, (1, 12, [])) : Nat × Ent) ∈ shM := List.mem_of_getElem? (i := 17) rfl
theorem eM_18 : ((18, (1, 10, [])) : Nat × Ent) ∈ shM := List.mem_of_getElem? (i := 18) rfl
theorem eM_19 : ((19, (1, 10, [])) : Nat × Ent) ∈ shM := List.mem_of_getElem? (i := 19) rfl
theorem eM_20 : ((20, (1, 10, [])) : Nat × Ent) ∈ shM := List.mem_of_getElem? (i := 20) rfl
theorem eM_21 : ((21, (3, 10, [])) : Nat × Ent) ∈ shM := List.mem_of_getElem? (i := 21) rfl
theorem eM_22 : ((22, (3, 10, [])) : Nat × Ent) ∈ shM := List.mem_of_getElem? (i := 22) rfl
theorem eM_23 : ((23, (1, 4, [])) : Nat × Ent) ∈ shM := List.mem_of_getElem? (i := 23) rfl
theorem eM_24 : ((24, (1, 2000, [])) : Nat × Ent) ∈ shM := List.mem_of_getElem? (i := 24) rfl
theorem eM_25 : ((25, (1, 2000, [])) : Nat × Ent) ∈ shM := List.mem_of_getElem? (i := 25) rfl
theorem eM_26 : ((26, (1, 48, [])) : Nat × Ent) ∈ shM := List.mem_of_getElem? (i := 26) rfl
theorem eM_27 : ((27, (1, 48, [])) : Nat × Ent) ∈ shM := List.mem_of_getElem? (i := 27) rfl
theorem eM_28 : ((28, (1, 48, [])) : Nat × Ent) ∈ shM := List.mem_of_getElem? (i := 28) rfl
theorem eM_29 : ((29, (1, 4, [])) : Nat × Ent) ∈ shM := List.mem_of_getElem? (i := 29) rfl
theorem eM_30 : ((30, (1, 10, [])) : Nat × Ent) ∈ shM := List.mem_of_getElem? (i := 30) rfl
theorem eM_31 : ((31, (1, 4, [])) : Nat × Ent) ∈ shM := List.mem_of_getElem? (i := 31) rfl
theorem eM_32 : ((32, (1, 4, [])) : Nat × Ent) ∈ shM := List.mem_of_getElem? (i := 32) rfl
theorem eM_33 : ((33, (1, 160, [])) : Nat × Ent) ∈ shM := List.mem_of_getElem? (i := 33) rfl
theorem eM_34 : ((34, (1, 40, [])) : Nat × Ent) ∈ shM := List.mem_of_getElem? (i := 34) rfl
theorem iter_0 {α β : Type} {b : (α → Option β) → α → Option β} {a : α} {r : β} {P : Prop} (h : iter b 0 a = some r) : P := by cases h
noncomputable def f_X12_in  (x0 : Int32) (x1 : Int32) (x2 : Int32) : Int32 := (if x0 < x1 then 0 else (if x2 < x0 then 0 else 1))
theorem b_X12_in (x0 : Int32) (x1 : Int32) (x2 : Int32) : isB (f_X12_in x0 x1 x2) = true := by
  unfold f_X12_in
  first | (repeat' split) <;> rfl
theorem kyX12_in : Ky yX12_in cX12_in 3 (some FieldType.boolean) 3 := ⟨u5_130, u1_15, by decide, by decide, by decide, by decide +kernel⟩
set_option maxHeartbeats 4000000 in
set_option maxRecDepth 100000 in
theorem c_X12_in (l : Launch) (x0 : Int32) (x1 : Int32) (x2 : Int32)  {vz : Int32} (hf : f_X12_in x0 x1 x2 = vz) : Met l yX12_in (wsU yX12_in cX12_in 3 (some FieldType.boolean)) (rmX 1 0 0) (va_Pc [.int x0, .int x1, .int x2] (fun _ => True)) (QP vz) 0 0 noA := by
  refine s_met0 (by decide) (Nat.le_of_ble_eq_true rfl) ?_
  intro p e s m args below meth c ls E hl
  have hl : lv_has ls 3 [(0, .int x0), (1, .int x1), (2, .int x2)] := hl
  have E : Cx p s m args meth c RX12 cX12_in 3 (some FieldType.boolean) := E
  obtain ⟨hx, hb, hr, hml, hown, hu, hlocks⟩ := id E
  rw [f_X12_in] at hf
  refine lv_iload_n hx hb dX12_in_0 rfl (lv_at hl 0 rfl) ?_
  refine lv_iload_n hx hb dX12_in_1 rfl (lv_at hl 1 rfl) ?_
  refine lv_icmp_lt (tgt := 14) hx hb dX12_in_2 (by decide) (fun c1 => ?_) (fun c1 => ?_)
  · have hf := ite_t c1 hf
    refine lv_iconst (v := 0) hx hb dX12_in_14 (by decide) ?_
    subst hf
    exact s_iretP rfl E dX12_in_15
  · have hf := ite_f c1 hf
    refine lv_iload_n hx hb dX12_in_5 rfl (lv_at hl 0 rfl) ?_
    refine lv_iload_n hx hb dX12_in_6 rfl (lv_at hl 2 rfl) ?_
    refine lv_icmp_gt (tgt := 14) hx hb dX12_in_7 (by decide) (fun c2 => ?_) (fun c2 => ?_)
    · have hf := ite_t c2 hf
      refine lv_iconst (v := 0) hx hb dX12_in_14 (by decide) ?_
      subst hf
      exact s_iretP rfl E dX12_in_15
    · have hf := ite_f c2 hf
      refine lv_iconst (v := 1) hx hb dX12_in_10 (by decide) ?_
      refine lv_goto (tgt := 15) hx hb dX12_in_11 (by decide) ?_
      subst hf
      exact s_iretP rfl E dX12_in_15
noncomputable def f_X12_held  (x0 : Int32) (x1 : Int32) : Int32 := (if 0 ≤ x0 then (if x0 ≤ x1 then x0 else x1) else 0)
theorem kyX12_held : Ky yX12_held cX12_held 2 (some FieldType.int) 2 := ⟨u6_79, u1_15, by decide, by decide, by decide, by decide +kernel⟩
set_option maxHeartbeats 4000000 in
set_option maxRecDepth 100000 in
theorem c_X12_held (l : Launch) (x0 : Int32) (x1 : Int32)  {vz : Int32} (hf : f_X12_held x0 x1 = vz) : Met l yX12_held (wsU yX12_held cX12_held 2 (some FieldType.int)) (rmX 1 0 0) (va_Pc [.int x0, .int x1] (fun _ => True)) (QP vz) 0 0 noA := by
  refine s_met0 (by decide) (Nat.le_of_ble_eq_true rfl) ?_
  intro p e s m args below meth c ls E hl
  have hl : lv_has ls 2 [(0, .int x0), (1, .int x1)] := hl
  have E : Cx p s m args meth c RX12 cX12_held 2 (some FieldType.int) := E
  obtain ⟨hx, hb, hr, hml, hown, hu, hlocks⟩ := id E
  rw [f_X12_held] at hf
  refine lv_iload_n hx hb dX12_held_0 rfl (lv_at hl 0 rfl) ?_
  refine lv_if_ge (tgt := 8) hx hb dX12_held_1 (by decide) (fun c1 => ?_) (fun c1 => ?_)
  · have hf := ite_t c1 hf
    refine lv_iload_n hx hb dX12_held_8 rfl (lv_at hl 0 rfl) ?_
    refine lv_iload_n hx hb dX12_held_9 rfl (lv_at hl 1 rfl) ?_
    refine lv_icmp_le (tgt := 17) hx hb dX12_held_10 (by decide) (fun c2 => ?_) (fun c2 => ?_)
    · have hf := ite_t c2 hf
      refine lv_iload_n hx hb dX12_held_17 rfl (lv_at hl 0 rfl) ?_
      subst hf
      exact s_iretP rfl E dX12_held_18
    · have hf := ite_f c2 hf
      refine lv_iload_n hx hb dX12_held_13 rfl (lv_at hl 1 rfl) ?_
      refine lv_goto (tgt := 18) hx hb dX12_held_14 (by decide) ?_
      subst hf
      exact s_iretP rfl E dX12_held_18
  · have hf := ite_f c1 hf
    refine lv_iconst (v := 0) hx hb dX12_held_4 (by decide) ?_
    refine lv_goto (tgt := 18) hx hb dX12_held_5 (by decide) ?_
    subst hf
    exact s_iretP rfl E dX12_held_18
noncomputable def f_X12_isSinger (G : Mem) (x1 : Int32) : Int32 := (f_X12_in x1 0 ((G 0 7) - 1))
theorem b_X12_isSinger (G : Mem) (x1 : Int32) : isB (f_X12_isSinger G x1) = true := by
  unfold f_X12_isSinger
  first | (repeat' split) <;> rfl | (repeat' split) <;> first | rfl | exact (b_X12_in x1 0 ((G 0 7) - 1))
theorem kyX12_isSinger : Ky yX12_isSinger cX12_isSinger 2 (some FieldType.boolean) 1 := ⟨u5_142, u1_15, by decide, by decide, by decide, by decide +kernel⟩
set_option maxHeartbeats 4000000 in
set_option maxRecDepth 100000 in
theorem c_X12_isSinger (l : Launch) (D : va_G) (K : List Nat) (sh : Nat → Ent) (ad : Nat → Nat) (cy : Nat → ClassId) (X : va_W) (B : State → Prop) (hcl : Bcl (AS K ad X) B) (hE : ∀ q ∈ shM, q.1 ∈ K ∧ sh q.1 = q.2) (G : Mem) (L : MemL) (O : MemO) (x1 : Int32)  {vz : Int32} (hf : f_X12_isSinger G x1 = vz) : Met l yX12_isSinger (wsU yX12_isSinger cX12_isSinger 2 (some FieldType.boolean)) (rmX 2 0 0) (va_Pc [.ref (ad 0), .int x1] (PS D K sh ad cy X B G L O)) (QI (AS K ad X) (PH D K sh ad cy X G L O) vz) 0 0 (AS K ad X) := by
  refine s_met (by decide) (Nat.le_of_ble_eq_true rfl) ?_
  intro p e s m args below meth c ls E hK hBs hnm hI hl
  have hl : lv_has ls 2 [(0, .ref (ad 0)), (1, .int x1)] := hl
  have E : Cx p s m args meth c RX12 cX12_isSinger 2 (some FieldType.boolean) := E
  obtain ⟨hx, hb, hr, hml, hown, hu, hlocks⟩ := id E
  rw [f_X12_isSinger] at hf
  refine lv_iload_n hx hb dX12_isSinger_0 rfl (lv_at hl 1 rfl) ?_
  refine lv_iconst (v := 0) hx hb dX12_isSinger_1 (by decide) ?_
  refine lv_aload_n hx hb dX12_isSinger_2 rfl (lv_at hl 0 rfl) ?_
  refine s_get (v := .int (G 0 7)) hx hb hu inU12 hown hK hI (hE _ eM_0) rfl 7 (by decide) u4_195 (fun _ h => h) rfl rfl dX12_isSinger_3 ?_
  refine lv_iconst (v := 1) hx hb dX12_isSinger_6 (by decide) ?_
  refine lv_isub hx hb dX12_isSinger_7 ?_
  refine s_cSP (np := 3) (rest := []) E (c_X12_in l x1 0 ((G 0 7) - 1) rfl) kyX12_in u5_128 u5_129 (by decide) rfl hl.1 rfl (Nat.le_of_ble_eq_true rfl) ⟨Nat.zero_le _, Nat.zero_le _⟩ dX12_isSinger_8 ?_
  subst hf
  exact s_zret (isB_i (b_X12_in x1 0 ((G 0 7) - 1))) hx hb hr hI.2.2 hI.1 hlocks dX12_isSinger_11
noncomputable def f_X12_isStep (G : Mem) (x1 : Int32) : Int32 := (f_X12_in x1 0 ((G 0 1) - 1))
theorem b_X12_isStep (G : Mem) (x1 : Int32) : isB (f_X12_isStep G x1) = true := by
  unfold f_X12_isStep
  first | (repeat' split) <;> rfl | (repeat' split) <;> first | rfl | exact (b_X12_in x1 0 ((G 0 1) - 1))
theorem kyX12_isStep : Ky yX12_isStep cX12_isStep 2 (some FieldType.boolean) 1 := ⟨u6_4, u1_15, by decide, by decide, by decide, by decide +kernel⟩
set_option maxHeartbeats 4000000 in
set_option maxRecDepth 100000 in
theorem c_X12_isStep (l : Launch) (D : va_G) (K : List Nat) (sh : Nat → Ent) (ad : Nat → Nat) (cy : Nat → ClassId) (X : va_W) (B : State → Prop) (hcl : Bcl (AS K ad X) B) (hE : ∀ q ∈ shM, q.1 ∈ K ∧ sh q.1 = q.2) (G : Mem) (L : MemL) (O : MemO) (x1 : Int32)  {vz : Int32} (hf : f_X12_isStep G x1 = vz) : Met l yX12_isStep (wsU yX12_isStep cX12_isStep 2 (some FieldType.boolean)) (rmX 2 0 0) (va_Pc [.ref (ad 0), .int x1] (PS D K sh ad cy X B G L O)) (QI (AS K ad X) (PH D K sh ad cy X G L O) vz) 0 0 (AS K ad X) := by
  refine s_met (by decide) (Nat.le_of_ble_eq_true rfl) ?_
  intro p e s m args below meth c ls E hK hBs hnm hI hl
  have hl : lv_has ls 2 [(0, .ref (ad 0)), (1, .int x1)] := hl
  have E : Cx p s m args meth c RX12 cX12_isStep 2 (some FieldType.boolean) := E
  obtain ⟨hx, hb, hr, hml, hown, hu, hlocks⟩ := id E
  rw [f_X12_isStep] at hf
  refine lv_iload_n hx hb dX12_isStep_0 rfl (lv_at hl 1 rfl) ?_
  refine lv_iconst (v := 0) hx hb dX12_isStep_1 (by decide) ?_
  refine lv_aload_n hx hb dX12_isStep_2 rfl (lv_at hl 0 rfl) ?_
  refine s_get (v := .int (G 0 1)) hx hb hu inU12 hown hK hI (hE _ eM_0) rfl 1 (by decide) u4_189 (fun _ h => h) rfl rfl dX12_isStep_3 ?_
  refine lv_iconst (v := 1) hx hb dX12_isStep_6 (by decide) ?_
  refine lv_isub hx hb dX12_isStep_7 ?_
  refine s_cSP (np := 3) (rest := []) E (c_X12_in l x1 0 ((G 0 1) - 1) rfl) kyX12_in u5_128 u5_129 (by decide) rfl hl.1 rfl (Nat.le_of_ble_eq_true rfl) ⟨Nat.zero_le _, Nat.zero_le _⟩ dX12_isStep_8 ?_
  subst hf
  exact s_zret (isB_i (b_X12_in x1 0 ((G 0 1) - 1))) hx hb hr hI.2.2 hI.1 hlocks dX12_isStep_11
noncomputable def f_X12_set (G : Mem) (x1 : Int32) (x2 : Int32) (x3 : Int32) : Option (Mem × Int32) := (if x1 = 0 then (if (f_X12_in x2 0 47) = 0 then some (G, (-2)) else (if (f_X12_in x3 0 9) = 0 then some (G, (-2)) else chk (inB x2 48) (bnd (G 1 x2.toNatClampNeg) (fun x4_5 => chk (inB x2 48) (bnd (up2 G 1 x2.toNatClampNeg x3) (fun G7 => some (G7, x4_5))))))) else if x1 = 1 then (if (f_X12_in x2 0 47) = 0 then some (G, (-2)) else (if (f_X12_in x3 0 1) = 0 then some (G, (-2)) else chk (inB x2 48) (bnd (G 2 x2.toNatClampNeg) (fun x4_12 => chk (inB x2 48) (bnd (up2 G 2 x2.toNatClampNeg x3) (fun G14 => some (G14, x4_12))))))) else if x1 = 2 then (if (f_X12_in x2 0 47) = 0 then some (G, (-2)) else (if (f_X12_in x3 0 1) = 0 then some (G, (-2)) else chk (inB x2 48) (bnd (G 3 x2.toNatClampNeg) (fun x4_19 => chk (inB x2 48) (bnd (up2 G 3 x2.toNatClampNeg x3) (fun G21 => some (G21, x4_19))))))) else if x1 = 3 then (if (f_X12_in x2 0 3) = 0 then some (G, (-2)) else (if (f_X12_in x3 0 9) = 0 then some (G, (-2)) else chk (inB x2 4) (bnd (G 4 x2.toNatClampNeg) (fun x4_26 => chk (inB x2 4) (bnd (up2 G 4 x2.toNatClampNeg x3) (fun G28 => some (G28, x4_26))))))) else if x1 = 4 then (if (f_X12_in x3 1 48) = 0 then some (G, (-2)) else bnd (G 0 1) (fun x4_31 => bnd (up2 G 0 1 x3) (fun G32 => some (G32, x4_31)))) else if x1 = 5 then (if (f_X12_in x3 0 5) = 0 then some (G, (-2)) else bnd (G 0 2) (fun x4_35 => bnd (up2 G 0 2 x3) (fun G36 => some (G36, x4_35)))) else some (G, (-2)))
theorem kyX12_set : Ky yX12_set cX12_set 5 (some FieldType.int) 3 := ⟨u5_127, u1_15, by decide, by decide, by decide, by decide +kernel⟩
set_option maxHeartbeats 4000000 in
set_option maxRecDepth 100000 in
theorem c_X12_set (l : Launch) (D : va_G) (K : List Nat) (sh : Nat → Ent) (ad : Nat → Nat) (cy : Nat → ClassId) (X : va_W) (B : State → Prop) (hcl : Bcl (AS K ad X) B) (hE : ∀ q ∈ shM, q.1 ∈ K ∧ sh q.1 = q.2) (G : Mem) (L : MemL) (O : MemO) (x1 : Int32) (x2 : Int32) (x3 : Int32) {Gz : Mem} {vz : Int32} (hf : f_X12_set G x1 x2 x3 = some (Gz, vz)) : Met l yX12_set (wsU yX12_set cX12_set 5 (some FieldType.int)) (rmX 2 0 0) (va_Pc [.ref (ad 0), .int x1, .int x2, .int x3] (PS D K sh ad cy X B G L O)) (QI (AS K ad X) (PH D K sh ad cy X Gz L O) vz) 0 0 (AS K ad X) := by
  refine s_met (by decide) (Nat.le_of_ble_eq_true rfl) ?_
  intro p e s m args below meth c ls E hK hBs hnm hI hl
  have hl : lv_has ls 5 [(0, .ref (ad 0)), (1, .int x1), (2, .int x2), (3, .int x3)] := hl
  have E : Cx p s m args meth c RX12 cX12_set 5 (some FieldType.int) := E
  obtain ⟨hx, hb, hr, hml, hown, hu, hlocks⟩ := id E
  rw [f_X12_set] at hf
  refine lv_iload_n hx hb dX12_set_0 rfl (lv_at hl 1 rfl) ?_
  by_cases c1 : x1 = 0
  · have hf := ite_t c1 hf
    refine s_tbl (tgt := 40) 0 E dX12_set_1 c1 (by decide) (by decide) rfl (by decide) ?_
    refine lv_iload_n hx hb dX12_set_40 rfl (lv_at hl 2 rfl) ?_
    refine lv_iconst (v := 0) hx hb dX12_set_41 (by decide) ?_
    refine lv_bipush (v := 47) hx hb dX12_set_42 (by decide) ?_
    refine s_cSP (np := 3) (rest := []) E (c_X12_in l x2 0 47 rfl) kyX12_in u5_128 u5_129 (by decide) rfl hl.1 rfl (Nat.le_of_ble_eq_true rfl) ⟨Nat.zero_le _, Nat.zero_le _⟩ dX12_set_44 ?_
    refine lv_if_eq (tgt := 60) hx hb dX12_set_47 (by decide) (fun c2 => ?_) (fun c2 => ?_)
    · have hf := ite_t c2 hf
      refine lv_bipush (v := (-2)) hx hb dX12_set_60 (by decide) ?_
      cases hf
      exact s_iret hx hb hr hI.2.2 hI.1 hlocks dX12_set_62
    · have hf := ite_f c2 hf
      refine lv_iload_n hx hb dX12_set_50 rfl (lv_at hl 3 rfl) ?_
      refine lv_iconst (v := 0) hx hb dX12_set_51 (by decide) ?_
      refine lv_bipush (v := 9) hx hb dX12_set_52 (by decide) ?_
      refine s_cSP (np := 3) (rest := []) E (c_X12_in l x3 0 9 rfl) kyX12_in u5_128 u5_129 (by decide) rfl hl.1 rfl (Nat.le_of_ble_eq_true rfl) ⟨Nat.zero_le _, Nat.zero_le _⟩ dX12_set_54 ?_
      refine lv_if_ne (tgt := 63) hx hb dX12_set_57 (by decide) (fun c3 => ?_) (fun c3 => ?_)
      · have hf := ite_f c3 hf
        refine lv_aload_n hx hb dX12_set_63 rfl (lv_at hl 0 rfl) ?_
        refine s_get (v := .ref (ad 1)) hx hb hu inU12 hown hK hI (hE _ eM_0) rfl 3 (by decide) u4_191 (fun _ h => h) rfl rfl dX12_set_64 ?_
        refine lv_iload_n hx hb dX12_set_67 rfl (lv_at hl 2 rfl) ?_
        obtain ⟨h4, hf⟩ := chk_i hf
        refine s_ild hx hb hK hI (hE _ eM_1) (inB_i h4) dX12_set_68 ?_
        obtain ⟨x4_5, ex4_5, hf⟩ := bnd_i hf
        refine s_nmI ex4_5 ?_
        refine lv_istore (lv' := [(4, .int x4_5), (0, .ref (ad 0)), (1, .int x1), (2, .int x2), (3, .int x3)]) hx hb dX12_set_69 hl (by decide) rfl (fun ls hl => ?_)
        refine lv_aload_n hx hb dX12_set_71 rfl (lv_at hl 1 rfl) ?_
        refine s_get (v := .ref (ad 1)) hx hb hu inU12 hown hK hI (hE _ eM_0) rfl 3 (by decide) u4_191 (fun _ h => h) rfl rfl dX12_set_72 ?_
        refine lv_iload_n hx hb dX12_set_75 rfl (lv_at hl 3 rfl) ?_
        refine lv_iload_n hx hb dX12_set_76 rfl (lv_at hl 4 rfl) ?_
        obtain ⟨h6, hf⟩ := chk_i hf
        obtain ⟨G7, eG7, hf⟩ := bnd_i hf
        refine s_ist hx hb hK hI (hE _ eM_1) (inB_i h6) eG7 dX12_set_77 (fun H locs hI => ?_)
        refine lv_iload hx hb dX12_set_78 (lv_at hl 0 rfl) ?_
        cases hf
        exact s_iret hx hb hr hI.2.2 hI.1 hlocks dX12_set_80
      · have hf := ite_t c3 hf
        refine lv_bipush (v := (-2)) hx hb dX12_set_60 (by decide) ?_
        cases hf
        exact s_iret hx hb hr hI.2.2 hI.1 hlocks dX12_set_62
  · have hf := ite_f c1 hf
    by_cases c8 : x1 = 1
    · have hf := ite_t c8 hf
      refine s_tbl (tgt := 81) 1 E dX12_set_1 c8 (by decide) (by decide) rfl (by decide) ?_
      refine lv_iload_n hx hb dX12_set_81 rfl (lv_at hl 2 rfl) ?_
      refine lv_iconst (v := 0) hx hb dX12_set_82 (by decide) ?_
      refine lv_bipush (v := 47) hx hb dX12_set_83 (by decide) ?_
      refine s_cSP (np := 3) (rest := []) E (c_X12_in l x2 0 47 rfl) kyX12_in u5_128 u5_129 (by decide) rfl hl.1 rfl (Nat.le_of_ble_eq_true rfl) ⟨Nat.zero_le _, Nat.zero_le _⟩ dX12_set_85 ?_
      refine lv_if_eq (tgt := 100) hx hb dX12_set_88 (by decide) (fun c9 => ?_) (fun c9 => ?_)
      · have hf := ite_t c9 hf
        refine lv_bipush (v := (-2)) hx hb dX12_set_100 (by decide) ?_
        cases hf
        exact s_iret hx hb hr hI.2.2 hI.1 hlocks dX12_set_102
      · have hf := ite_f c9 hf
        refine lv_iload_n hx hb dX12_set_91 rfl (lv_at hl 3 rfl) ?_
        refine lv_iconst (v := 0) hx hb dX12_set_92 (by decide) ?_
        refine lv_iconst (v := 1) hx hb dX12_set_93 (by decide) ?_
        refine s_cSP (np := 3) (rest := []) E (c_X12_in l x3 0 1 rfl) kyX12_in u5_128 u5_129 (by decide) rfl hl.1 rfl (Nat.le_of_ble_eq_true rfl) ⟨Nat.zero_le _, Nat.zero_le _⟩ dX12_set_94 ?_
        refine lv_if_ne (tgt := 103) hx hb dX12_set_97 (by decide) (fun c10 => ?_) (fun c10 => ?_)
        · have hf := ite_f c10 hf
          refine lv_aload_n hx hb dX12_set_103 rfl (lv_at hl 0 rfl) ?_
          refine s_get (v := .ref (ad 2)) hx hb hu inU12 hown hK hI (hE _ eM_0) rfl 4 (by decide) u4_192 (fun _ h => h) rfl rfl dX12_set_104 ?_
          refine lv_iload_n hx hb dX12_set_107 rfl (lv_at hl 2 rfl) ?_
          obtain ⟨h11, hf⟩ := chk_i hf
          refine s_ild hx hb hK hI (hE _ eM_2) (inB_i h11) dX12_set_108 ?_
          obtain ⟨x4_12, ex4_12, hf⟩ := bnd_i hf
          refine s_nmI ex4_12 ?_
          refine lv_istore (lv' := [(4, .int x4_12), (0, .ref (ad 0)), (1, .int x1), (2, .int x2), (3, .int x3)]) hx hb dX12_set_109 hl (by decide) rfl (fun ls hl => ?_)
          refine lv_aload_n hx hb dX12_set_111 rfl (lv_at hl 1 rfl) ?_
          refine s_get (v := .ref (ad 2)) hx hb hu inU12 hown hK hI (hE _ eM_0) rfl 4 (by decide) u4_192 (fun _ h => h) rfl rfl dX12_set_112 ?_
          refine lv_iload_n hx hb dX12_set_115 rfl (lv_at hl 3 rfl) ?_
          refine lv_iload_n hx hb dX12_set_116 rfl (lv_at hl 4 rfl) ?_
          obtain ⟨h13, hf⟩ := chk_i hf
          obtain ⟨G14, eG14, hf⟩ := bnd_i hf
          refine s_ist hx hb hK hI (hE _ eM_2) (inB_i h13) eG14 dX12_set_117 (fun H locs hI => ?_)
          refine lv_iload hx hb dX12_set_118 (lv_at hl 0 rfl) ?_
          cases hf
          exact s_iret hx hb hr hI.2.2 hI.1 hlocks dX12_set_120
        · have hf := ite_t c10 hf
          refine lv_bipush (v := (-2)) hx hb dX12_set_100 (by decide) ?_
          cases hf
          exact s_iret hx hb hr hI.2.2 hI.1 hlocks dX12_set_102
    · have hf := ite_f c8 hf
      by_cases c15 : x1 = 2
      · have hf := ite_t c15 hf
        refine s_tbl (tgt := 121) 2 E dX12_set_1 c15 (by decide) (by decide) rfl (by decide) ?_
        refine lv_iload_n hx hb dX12_set_121 rfl (lv_at hl 2 rfl) ?_
        refine lv_iconst (v := 0) hx hb dX12_set_122 (by decide) ?_
        refine lv_bipush (v := 47) hx hb dX12_set_123 (by decide) ?_
        refine s_cSP (np := 3) (rest := []) E (c_X12_in l x2 0 47 rfl) kyX12_in u5_128 u5_129 (by decide) rfl hl.1 rfl (Nat.le_of_ble_eq_true rfl) ⟨Nat.zero_le _, Nat.zero_le _⟩ dX12_set_125 ?_
        refine lv_if_eq (tgt := 140) hx hb dX12_set_128 (by decide) (fun c16 => ?_) (fun c16 => ?_)
        · have hf := ite_t c16 hf
          refine lv_bipush (v := (-2)) hx hb dX12_set_140 (by decide) ?_
          cases hf
          exact s_iret hx hb hr hI.2.2 hI.1 hlocks dX12_set_142
        · have hf := ite_f c16 hf
          refine lv_iload_n hx hb dX12_set_131 rfl (lv_at hl 3 rfl) ?_
          refine lv_iconst (v := 0) hx hb dX12_set_132 (by decide) ?_
          refine lv_iconst (v := 1) hx hb dX12_set_133 (by decide) ?_
          refine s_cSP (np := 3) (rest := []) E (c_X12_in l x3 0 1 rfl) kyX12_in u5_128 u5_129 (by decide) rfl hl.1 rfl (Nat.le_of_ble_eq_true rfl) ⟨Nat.zero_le _, Nat.zero_le _⟩ dX12_set_134 ?_
          refine lv_if_ne (tgt := 143) hx hb dX12_set_137 (by decide) (fun c17 => ?_) (fun c17 => ?_)
          · have hf := ite_f c17 hf
            refine lv_aload_n hx hb dX12_set_143 rfl (lv_at hl 0 rfl) ?_
            refine s_get (v := .ref (ad 3)) hx hb hu inU12 hown hK hI (hE _ eM_0) rfl 5 (by decide) u4_193 (fun _ h => h) rfl rfl dX12_set_144 ?_
            refine lv_iload_n hx hb dX12_set_147 rfl (lv_at hl 2 rfl) ?_
            obtain ⟨h18, hf⟩ := chk_i hf
            refine s_ild hx hb hK hI (hE _ eM_3) (inB_i h18) dX12_set_148 ?_
            obtain ⟨x4_19, ex4_19, hf⟩ := bnd_i hf
            refine s_nmI ex4_19 ?_
            refine lv_istore (lv' := [(4, .int x4_19), (0, .ref (ad 0)), (1, .int x1), (2, .int x2), (3, .int x3)]) hx hb dX12_set_149 hl (by decide) rfl (fun ls hl => ?_)
            refine lv_aload_n hx hb dX12_set_151 rfl (lv_at hl 1 rfl) ?_
            refine s_get (v := .ref (ad 3)) hx hb hu inU12 hown hK hI (hE _ eM_0) rfl 5 (by decide) u4_193 (fun _ h => h) rfl rfl dX12_set_152 ?_
            refine lv_iload_n hx hb dX12_set_155 rfl (lv_at hl 3 rfl) ?_
            refine lv_iload_n hx hb dX12_set_156 rfl (lv_at hl 4 rfl) ?_
            obtain ⟨h20, hf⟩ := chk_i hf
            obtain ⟨G21, eG21, hf⟩ := bnd_i hf
            refine s_ist hx hb hK hI (hE _ eM_3) (inB_i h20) eG21 dX12_set_157 (fun H locs hI => ?_)
            refine lv_iload hx hb dX12_set_158 (lv_at hl 0 rfl) ?_
            cases hf
            exact s_iret hx hb hr hI.2.2 hI.1 hlocks dX12_set_160
          · have hf := ite_t c17 hf
            refine lv_bipush (v := (-2)) hx hb dX12_set_140 (by decide) ?_
            cases hf
            exact s_iret hx hb hr hI.2.2 hI.1 hlocks dX12_set_142
      · have hf := ite_f c15 hf
        by_cases c22 : x1 = 3
        · have hf := ite_t c22 hf
          refine s_tbl (tgt := 161) 3 E dX12_set_1 c22 (by decide) (by decide) rfl (by decide) ?_
          refine lv_iload_n hx hb dX12_set_161 rfl (lv_at hl 2 rfl) ?_
          refine lv_iconst (v := 0) hx hb dX12_set_162 (by decide) ?_
          refine lv_iconst (v := 3) hx hb dX12_set_163 (by decide) ?_
          refine s_cSP (np := 3) (rest := []) E (c_X12_in l x2 0 3 rfl) kyX12_in u5_128 u5_129 (by decide) rfl hl.1 rfl (Nat.le_of_ble_eq_true rfl) ⟨Nat.zero_le _, Nat.zero_le _⟩ dX12_set_164 ?_
          refine lv_if_eq (tgt := 180) hx hb dX12_set_167 (by decide) (fun c23 => ?_) (fun c23 => ?_)
          · have hf := ite_t c23 hf
            refine lv_bipush (v := (-2)) hx hb dX12_set_180 (by decide) ?_
            cases hf
            exact s_iret hx hb hr hI.2.2 hI.1 hlocks dX12_set_182
          · have hf := ite_f c23 hf
            refine lv_iload_n hx hb dX12_set_170 rfl (lv_at hl 3 rfl) ?_
            refine lv_iconst (v := 0) hx hb dX12_set_171 (by decide) ?_
            refine lv_bipush (v := 9) hx hb dX12_set_172 (by decide) ?_
            refine s_cSP (np := 3) (rest := []) E (c_X12_in l x3 0 9 rfl) kyX12_in u5_128 u5_129 (by decide) rfl hl.1 rfl (Nat.le_of_ble_eq_true rfl) ⟨Nat.zero_le _, Nat.zero_le _⟩ dX12_set_174 ?_
            refine lv_if_ne (tgt := 183) hx hb dX12_set_177 (by decide) (fun c24 => ?_) (fun c24 => ?_)
            · have hf := ite_f c24 hf
              refine lv_aload_n hx hb dX12_set_183 rfl (lv_at hl 0 rfl) ?_
              refine s_get (v := .ref (ad 4)) hx hb hu inU12 hown hK hI (hE _ eM_0) rfl 6 (by decide) u4_194 (fun _ h => h) rfl rfl dX12_set_184 ?_
              refine lv_iload_n hx hb dX12_set_187 rfl (lv_at hl 2 rfl) ?_
              obtain ⟨h25, hf⟩ := chk_i hf
              refine s_ild hx hb hK hI (hE _ eM_4) (inB_i h25) dX12_set_188 ?_
              obtain ⟨x4_26, ex4_26, hf⟩ := bnd_i hf
              refine s_nmI ex4_26 ?_
              refine lv_istore (lv' := [(4, .int x4_26), (0, .ref (ad 0)), (1, .int x1), (2, .int x2), (3, .int x3)]) hx hb dX12_set_189 hl (by decide) rfl (fun ls hl => ?_)
              refine lv_aload_n hx hb dX12_set_191 rfl (lv_at hl 1 rfl) ?_
              refine s_get (v := .ref (ad 4)) hx hb hu inU12 hown hK hI (hE _ eM_0) rfl 6 (by decide) u4_194 (fun _ h => h) rfl rfl dX12_set_192 ?_
              refine lv_iload_n hx hb dX12_set_195 rfl (lv_at hl 3 rfl) ?_
              refine lv_iload_n hx hb dX12_set_196 rfl (lv_at hl 4 rfl) ?_
              obtain ⟨h27, hf⟩ := chk_i hf
              obtain ⟨G28, eG28, hf⟩ := bnd_i hf
              refine s_ist hx hb hK hI (hE _ eM_4) (inB_i h27) eG28 dX12_set_197 (fun H locs hI => ?_)
              refine lv_iload hx hb dX12_set_198 (lv_at hl 0 rfl) ?_
              cases hf
              exact s_iret hx hb hr hI.2.2 hI.1 hlocks dX12_set_200
            · have hf := ite_t c24 hf
              refine lv_bipush (v := (-2)) hx hb dX12_set_180 (by decide) ?_
              cases hf
              exact s_iret hx hb hr hI.2.2 hI.1 hlocks dX12_set_182
        · have hf := ite_f c22 hf
          by_cases c29 : x1 = 4
          · have hf := ite_t c29 hf
            refine s_tbl (tgt := 201) 4 E dX12_set_1 c29 (by decide) (by decide) rfl (by decide) ?_
            refine lv_iload_n hx hb dX12_set_201 rfl (lv_at hl 3 rfl) ?_
            refine lv_iconst (v := 1) hx hb dX12_set_202 (by decide) ?_
            refine lv_bipush (v := 48) hx hb dX12_set_203 (by decide) ?_
            refine s_cSP (np := 3) (rest := []) E (c_X12_in l x3 1 48 rfl) kyX12_in u5_128 u5_129 (by decide) rfl hl.1 rfl (Nat.le_of_ble_eq_true rfl) ⟨Nat.zero_le _, Nat.zero_le _⟩ dX12_set_205 ?_
            refine lv_if_ne (tgt := 214) hx hb dX12_set_208 (by decide) (fun c30 => ?_) (fun c30 => ?_)
            · have hf := ite_f c30 hf
              refine lv_aload_n hx hb dX12_set_214 rfl (lv_at hl 0 rfl) ?_
              refine s_get (v := .int (G 0 1)) hx hb hu inU12 hown hK hI (hE _ eM_0) rfl 1 (by decide) u4_189 (fun _ h => h) rfl rfl dX12_set_215 ?_
              obtain ⟨x4_31, ex4_31, hf⟩ := bnd_i hf
              refine s_nmI ex4_31 ?_
              refine lv_istore (lv' := [(4, .int x4_31), (0, .ref (ad 0)), (1, .int x1), (2, .int x2), (3, .int x3)]) hx hb dX12_set_218 hl (by decide) rfl (fun ls hl => ?_)
              refine lv_aload_n hx hb dX12_set_220 rfl (lv_at hl 1 rfl) ?_
              refine lv_iload_n hx hb dX12_set_221 rfl (lv_at hl 4 rfl) ?_
              obtain ⟨G32, eG32, hf⟩ := bnd_i hf
              refine s_put (ty := .int) hx hb hu inU12 tyX12_ok nmX12 hown hK hI (hE _ eM_0) rfl 1 (by decide) u4_189 (fun _ h => h) rfl rfl (tyX12_ok 1 (by decide)) rfl rfl eG32 dX12_set_222 (fun H locs hI => ?_)
              refine lv_iload hx hb dX12_set_225 (lv_at hl 0 rfl) ?_
              cases hf
              exact s_iret hx hb hr hI.2.2 hI.1 hlocks dX12_set_227
            · have hf := ite_t c30 hf
              refine lv_bipush (v := (-2)) hx hb dX12_set_211 (by decide) ?_
              cases hf
              exact s_iret hx hb hr hI.2.2 hI.1 hlocks dX12_set_213
          · have hf := ite_f c29 hf
            by_cases c33 : x1 = 5
            · have hf := ite_t c33 hf
              refine s_tbl (tgt := 228) 5 E dX12_set_1 c33 (by decide) (by decide) rfl (by decide) ?_
              refine lv_iload_n hx hb dX12_set_228 rfl (lv_at hl 3 rfl) ?_
              refine lv_iconst (v := 0) hx hb dX12_set_229 (by decide) ?_
              refine lv_iconst (v := 5) hx hb dX12_set_230 (by decide) ?_
              refine s_cSP (np := 3) (rest := []) E (c_X12_in l x3 0 5 rfl) kyX12_in u5_128 u5_129 (by decide) rfl hl.1 rfl (Nat.le_of_ble_eq_true rfl) ⟨Nat.zero_le _, Nat.zero_le _⟩ dX12_set_231 ?_
              refine lv_if_ne (tgt := 240) hx hb dX12_set_234 (by decide) (fun c34 => ?_) (fun c34 => ?_)
              · have hf := ite_f c34 hf
                refine lv_aload_n hx hb dX12_set_240 rfl (lv_at hl 0 rfl) ?_
                refine s_get (v := .int (G 0 2)) hx hb hu inU12 hown hK hI (hE _ eM_0) rfl 2 (by decide) u4_190 (fun _ h => h) rfl rfl dX12_set_241 ?_
                obtain ⟨x4_35, ex4_35, hf⟩ := bnd_i hf
                refine s_nmI ex4_35 ?_
                refine lv_istore (lv' := [(4, .int x4_35), (0, .ref (ad 0)), (1, .int x1), (2, .int x2), (3, .int x3)]) hx hb dX12_set_244 hl (by decide) rfl (fun ls hl => ?_)
                refine lv_aload_n hx hb dX12_set_246 rfl (lv_at hl 1 rfl) ?_
                refine lv_iload_n hx hb dX12_set_247 rfl (lv_at hl 4 rfl) ?_
                obtain ⟨G36, eG36, hf⟩ := bnd_i hf
                refine s_put (ty := .int) hx hb hu inU12 tyX12_ok nmX12 hown hK hI (hE _ eM_0) rfl 2 (by decide) u4_190 (fun _ h => h) rfl rfl (tyX12_ok 2 (by decide)) rfl rfl eG36 dX12_set_248 (fun H locs hI => ?_)
                refine lv_iload hx hb dX12_set_251 (lv_at hl 0 rfl) ?_
                cases hf
                exact s_iret hx hb hr hI.2.2 hI.1 hlocks dX12_set_253
              · have hf := ite_t c34 hf
                refine lv_bipush (v := (-2)) hx hb dX12_set_237 (by decide) ?_
                cases hf
                exact s_iret hx hb hr hI.2.2 hI.1 hlocks dX12_set_239
            · have hf := ite_f c33 hf
              refine lv_tableOut (tgt := 254) hx hb dX12_set_1 (by have q0 := lv_neT c1 (show (0 : Int32).toInt = 0 from rfl); have q1 := lv_neT c8 (show (1 : Int32).toInt = 1 from rfl); have q2 := lv_neT c15 (show (2 : Int32).toInt = 2 from rfl); have q3 := lv_neT c22 (show (3 : Int32).toInt = 3 from rfl); have q4 := lv_neT c29 (show (4 : Int32).toInt = 4 from rfl); have q5 := lv_neT c33 (show (5 : Int32).toInt = 5 from rfl); omega) (by decide) ?_
              refine lv_bipush (v := (-2)) hx hb dX12_set_254 (by decide) ?_
              cases hf
              exact s_iret hx hb hr hI.2.2 hI.1 hlocks dX12_set_256
noncomputable def f_X12_voice (G : Mem) (x1 : Int32) (x2 : Int32) : Option (Mem × Int32) := (if (f_X12_isSinger G x1) = 0 then some (G, (-2)) else (if (f_X12_in x2 0 3) = 0 then some (G, (-2)) else chk (inB x1 10) (bnd (G 6 x1.toNatClampNeg) (fun x3_4 => chk (inB x1 10) (bnd (up2 G 6 x1.toNatClampNeg x2) (fun G6 => some (G6, x3_4)))))))
theorem kyX12_voice : Ky yX12_voice cX12_voice 4 (some FieldType.int) 2 := ⟨u5_138, u1_15, by decide, by decide, by decide, by decide +kernel⟩
set_option maxHeartbeats 4000000 in
set_option maxRecDepth 100000 in
theorem c_X12_voice (l : Launch) (D : va_G) (K : List Nat) (sh : Nat → Ent) (ad : Nat → Nat) (cy : Nat → ClassId) (X : va_W) (B : State → Prop) (hcl : Bcl (AS K ad X) B) (hE : ∀ q ∈ shM, q.1 ∈ K ∧ sh q.1 = q.2) (G : Mem) (L : MemL) (O : MemO) (x1 : Int32) (x2 : Int32) {Gz : Mem} {vz : Int32} (hf : f_X12_voice G x1 x2 = some (Gz, vz)) : Met l yX12_voice (wsU yX12_voice cX12_voice 4 (some FieldType.int)) (rmX 3 0 0) (va_Pc [.ref (ad 0), .int x1, .int x2] (PS D K sh ad cy X B G L O)) (QI (AS K ad X) (PH D K sh ad cy X Gz L O) vz) 0 0 (AS K ad X) := by
  refine s_met (by decide) (Nat.le_of_ble_eq_true rfl) ?_
  intro p e s m args below meth c ls E hK hBs hnm hI hl
  have hl : lv_has ls 4 [(0, .ref (ad 0)), (1, .int x1), (2, .int x2)] := hl
  have E : Cx p s m args meth c RX12 cX12_voice 4 (some FieldType.int) := E
  obtain ⟨hx, hb, hr, hml, hown, hu, hlocks⟩ := id E
  rw [f_X12_voice] at hf
  refine lv_aload_n hx hb dX12_voice_0 rfl (lv_at hl 0 rfl) ?_
  refine lv_iload_n hx hb dX12_voice_1 rfl (lv_at hl 1 rfl) ?_
  refine s_afI hI (s_runV (rest := []) (As := [.int x1]) (np := 1) E hK hI (s_B hcl hBs hI) hcl.2 (hE _ eM_0) rfl (c_X12_isSinger l D K sh ad cy X B hcl hE G L O x1 rfl) kyX12_isSinger u5_139 u5_141 up_25 (by decide) rfl hl.1 rfl (Nat.le_of_ble_eq_true rfl) ⟨Nat.zero_le _, Nat.zero_le _⟩ dX12_voice_2) (fun H locs hI => ?_)
  refine lv_if_eq (tgt := 17) hx hb dX12_voice_5 (by decide) (fun c1 => ?_) (fun c1 => ?_)
  · have hf := ite_t c1 hf
    refine lv_bipush (v := (-2)) hx hb dX12_voice_17 (by decide) ?_
    cases hf
    exact s_iret hx hb hr hI.2.2 hI.1 hlocks dX12_voice_19
  · have hf := ite_f c1 hf
    refine lv_iload_n hx hb dX12_voice_8 rfl (lv_at hl 2 rfl) ?_
    refine lv_iconst (v := 0) hx hb dX12_voice_9 (by decide) ?_
    refine lv_iconst (v := 3) hx hb dX12_voice_10 (by decide) ?_
    refine s_cSP (np := 3) (rest := []) E (c_X12_in l x2 0 3 rfl) kyX12_in u5_128 u5_129 (by decide) rfl hl.1 rfl (Nat.le_of_ble_eq_true rfl) ⟨Nat.zero_le _, Nat.zero_le _⟩ dX12_voice_11 ?_
    refine lv_if_ne (tgt := 20) hx hb dX12_voice_14 (by decide) (fun c2 => ?_) (fun c2 => ?_)
    · have hf := ite_f c2 hf
      refine lv_aload_n hx hb dX12_voice_20 rfl (lv_at hl 0 rfl) ?_
      refine s_get (v := .ref (ad 6)) hx hb hu inU12 hown hK hI (hE _ eM_0) rfl 9 (by decide) u4_197 (fun _ h => h) rfl rfl dX12_voice_21 ?_
      refine lv_iload_n hx hb dX12_voice_24 rfl (lv_at hl 1 rfl) ?_
      obtain ⟨h3, hf⟩ := chk_i hf
      refine s_ild hx hb hK hI (hE _ eM_6) (inB_i h3) dX12_voice_25 ?_
      obtain ⟨x3_4, ex3_4, hf⟩ := bnd_i hf
      refine s_nmI ex3_4 ?_
      refine lv_istore_n (lv' := [(3, .int x3_4), (0, .ref (ad 0)), (1, .int x1), (2, .int x2)]) hx hb dX12_voice_26 rfl hl (by decide) rfl (fun ls hl => ?_)
      refine lv_aload_n hx hb dX12_voice_27 rfl (lv_at hl 1 rfl) ?_
      refine s_get (v := .ref (ad 6)) hx hb hu inU12 hown hK hI (hE _ eM_0) rfl 9 (by decide) u4_197 (fun _ h => h) rfl rfl dX12_voice_28 ?_
      refine lv_iload_n hx hb dX12_voice_31 rfl (lv_at hl 2 rfl) ?_
      refine lv_iload_n hx hb dX12_voice_32 rfl (lv_at hl 3 rfl) ?_
      obtain ⟨h5, hf⟩ := chk_i hf
      obtain ⟨G6, eG6, hf⟩ := bnd_i hf
      refine s_ist hx hb hK hI (hE _ eM_6) (inB_i h5) eG6 dX12_voice_33 (fun H locs hI => ?_)
      refine lv_iload_n hx hb dX12_voice_34 rfl (lv_at hl 0 rfl) ?_
      cases hf
      exact s_iret hx hb hr hI.2.2 hI.1 hlocks dX12_voice_35
    · have hf := ite_t c2 hf
      refine lv_bipush (v := (-2)) hx hb dX12_voice_17 (by decide) ?_
      cases hf
      exact s_iret hx hb hr hI.2.2 hI.1 hlocks dX12_voice_19
