def flM : List Nat := [0, 0, 0, 3, 4, 5, 6, 0, 7, 8, 9, 10, 11, 12, 0, 0, 0, 13, 14, 15, 0, 0, 0, 0, 0, 0, 0, 16, 17, 18, 19, 20, 21, 22, 23, 24, 0, 0, 0, 0, 0, 25, 26, 27, 0, 0, 0, 0, 0, 28, 29, 30, 31, 32, 33, 34, 35, 36]
def shM : List (Nat × Ent) := [(0, (0, 12, flM)), (1, (1, 48, [])), (2, (1, 48, [])), (3, (1, 48, [])), (4, (1, 4, [])), (5, (1, 10, [])), (6, (1, 10, [])), (7, (1, 10, [])), (8, (1, 10, [])), (9, (1, 10, [])), (10, (2, 160, [])), (11, (1, 1190, [])), (12, (1, 1190, [])), (13, (1, 21, [])), (14, (1, 170, [])), (15, (1, 6, [])), (16, (1, 61, [])), (17, (1, 12, [])), (18, (1, 10, [])), (19, (1, 10, [])), (20, (1, 10, [])), (21, (3, 10, [])), (22, (3, 10, [])), (23, (1, 4, [])), (24, (1, 2000, [])), (25, (1, 2000, [])), (26, (1, 48, [])), (27, (1, 48, [])), (28, (1, 48, [])), (29, (1, 4, [])), (30, (1, 10, [])), (31, (1, 4, [])), (32, (1, 4, [])), (33, (1, 160, [])), (34, (1, 40, []))]
theorem eM_0 : ((0, (0, 12, flM)) : Nat × Ent) ∈ shM := List.mem_of_getElem? (i := 0) rfl
theorem eM_1 : ((1, (1, 48, [])) : Nat × Ent) ∈ shM := List.mem_of_getElem? (i := 1) rfl
theorem eM_2 : ((2, (1, 48, [])) : Nat × Ent) ∈ shM := List.mem_of_getElem? (i := 2) rfl
theorem eM_3 : ((3, (1, 48, [])) : Nat × Ent) ∈ shM := List.mem_of_getElem? (i := 3) rfl
theorem eM_4 : ((4, (1, 4, [])) : Nat × Ent) ∈ shM := List.mem_of_getElem? (i := 4) rfl
theorem eM_5 : ((5, (1, 10, [])) : Nat × Ent) ∈ shM := List.mem_of_getElem? (i := 5) rfl
theorem eM_6 : ((6, (1, 10, [])) : Nat × Ent) ∈ shM := List.mem_of_getElem? (i := 6) rfl
theorem eM_7 : ((7, (1, 10, [])) : Nat × Ent) ∈ shM := List.mem_of_getElem? (i := 7) rfl
theorem eM_8 : ((8, (1, 10, [])) : Nat × Ent) ∈ shM := List.mem_of_getElem? (i := 8) rfl
theorem eM_9 : ((9, (1, 10, [])) : Nat × Ent) ∈ shM := List.mem_of_getElem? (i := 9) rfl
theorem eM_10 : ((10, (2, 160, [])) : Nat × Ent) ∈ shM := List.mem_of_getElem? (i := 10) rfl
theorem eM_11 : ((11, (1, 1190, [])) : Nat × Ent) ∈ shM := List.mem_of_getElem? (i := 11) rfl
theorem eM_12 : ((12, (1, 1190, [])) : Nat × Ent) ∈ shM := List.mem_of_getElem? (i := 12) rfl
theorem eM_13 : ((13, (1, 21, [])) : Nat × Ent) ∈ shM := List.mem_of_getElem? (i := 13) rfl
theorem eM_14 : ((14, (1, 170, [])) : Nat × Ent) ∈ shM := List.mem_of_getElem? (i := 14) rfl
theorem eM_15 : ((15, (1, 6, [])) : Nat × Ent) ∈ shM := List.mem_of_getElem? (i := 15) rfl
theorem eM_16 : ((16, (1, 61, [])) : Nat × Ent) ∈ shM := List.mem_of_getElem? (i := 16) rfl
theorem eM_17 : ((17, (1, 12, [])) : Nat × Ent) ∈ shM := List.mem_of_getElem? (i := 17) rfl
theorem eM_18 : ((18, (1, 10, [])) : Nat × Ent) ∈ shM := List.mem_of_getElem? (i := 18) rfl
theorem eM_19 : ((19, (1, 10, [])) : Nat × Ent) ∈ shM := List.mem_of_getElem? (i := 19) rfl
theorem eM_20 : ((20, (1, 10, [])) : Nat × Ent) ∈ shM := List.mem_of_getElem? (i := 20) rfl
theorem eM_21 : ((21, (3, 10, [])) : Nat × Ent) ∈ shM := List.mem_of_getElem? (i := 21) rfl
theorem eM_22 : ((22, (3, 10, [])) : Nat × Ent) ∈ shM := List.mem_of_getElem? (i := 22) rfl
theorem eM_23 : ((23, (1, 4, [])) : Nat × Ent) ∈ shM := List.mem_of_getElem? (i := 23) rfl
theorem eM_24 : ((24, (1, 2000, [])) : Nat × Ent) ∈ shM := List.mem_of_getElem? (i := 24) rfl
theorem eM_25 : ((25, (1, 2000, [])) : Nat × Ent) ∈ shM := List.mem_of_getElem? (i := 25) rfl
theorem eM_26 : ((26, (1, 48, [])) : Nat × Ent) ∈ shM := List.mem_of_getElem? (i := 26) rfl
theorem eM_27 : ((27, (1, 48, [])) : Nat × Ent) ∈ shM := List.mem_of_getElem? (i := 27) rfl
theorem eM_28 : ((28, (1, 48, [])) : Nat × Ent) ∈ shM := List.mem_of_getElem? (i := 28) rfl
theorem eM_29 : ((29, (1, 4, [])) : Nat × Ent) ∈ shM := List.mem_of_getElem? (i := 29) rfl
theorem eM_30 : ((30, (1, 10, [])) : Nat × Ent) ∈ shM := List.mem_of_getElem? (i := 30) rfl
theorem eM_31 : ((31, (1, 4, [])) : Nat × Ent) ∈ shM := List.mem_of_getElem? (i := 31) rfl
theorem eM_32 : ((32, (1, 4, [])) : Nat × Ent) ∈ shM := List.mem_of_getElem? (i := 32) rfl
theorem eM_33 : ((33, (1, 160, [])) : Nat × Ent) ∈ shM := List.mem_of_getElem? (i := 33) rfl
theorem eM_34 : ((34, (1, 40, [])) : Nat × Ent) ∈ shM := List.mem_of_getElem? (i := 34) rfl
theorem iter_0 {α β : Type} {b : (α → Option β) → α → Option β} {a : α} {r : β} {P : Prop} (h : iter b 0 a = some r) : P := by cases h
theorem mE {S : List (Nat × Ent)} {K : List Nat} {sh : Nat → Ent} (hE : ∀ q ∈ S, q.1 ∈ K ∧ sh q.1 = q.2) {k : Nat} {x : Ent} (h : (k, x) ∈ S) : k ∈ K ∧ sh k = x := hE (k, x) h
noncomputable def f_X12_in  (x0 : Int32) (x1 : Int32) (x2 : Int32) : Int32 := (if x0 < x1 then 0 else (if x2 < x0 then 0 else 1))
theorem b_X12_in (x0 : Int32) (x1 : Int32) (x2 : Int32) : isB (f_X12_in x0 x1 x2) = true := by
  unfold f_X12_in
  first | (repeat' split) <;> rfl
theorem kyX12_in : Ky yX12_in cX12_in 3 (some FieldType.boolean) 3 := ⟨u5_130, u1_15, by decide, by decide, by decide, by decide +kernel⟩
set_option maxHeartbeats 4000000 in
set_option maxRecDepth 100000 in
theorem c_X12_in (l : Launch) (x0 : Int32) (x1 : Int32) (x2 : Int32)  {vz : Int32} (hf : f_X12_in x0 x1 x2 = vz) : Met l yX12_in (wsU yX12_in cX12_in 3 (some FieldType.boolean)) (rmX 1 0 0) (va_Pc [.int x0, .int x1, .int x2] (fun _ => True)) (QP vz) 0 0 noA := by
  refine s_met0 (by decide) (Nat.le_of_ble_eq_true rfl) ?_
  intro p e s m args below meth c ls E hl
  have hl : lv_has ls 3 [(0, .int x0), (1, .int x1), (2, .int x2)] := hl
  have E : Cx p s m args meth c RX12 cX12_in 3 (some FieldType.boolean) := E
  obtain ⟨hx, hb, hr, hml, hown, hu, hlocks⟩ := id E
  rw [f_X12_in] at hf
  refine lv_iload_n hx hb dX12_in_0 rfl (lv_at hl 0 rfl) ?_
  refine lv_iload_n hx hb dX12_in_1 rfl (lv_at hl 1 rfl) ?_
  refine lv_icmp_lt (tgt := 14) hx hb dX12_in_2 (by decide) (fun c1 => ?_) (fun c1 => ?_)
  · have hf := ite_t c1 hf
    refine lv_iconst (v := 0) hx hb dX12_in_14 (by decide) ?_
    subst hf
    exact s_iretP rfl E dX12_in_15
  · have hf := ite_f c1 hf
    refine lv_iload_n hx hb dX12_in_5 rfl (lv_at hl 0 rfl) ?_
    refine lv_iload_n hx hb dX12_in_6 rfl (lv_at hl 2 rfl) ?_
    refine lv_icmp_gt (tgt := 14) hx hb dX12_in_7 (by decide) (fun c2 => ?_) (fun c2 => ?_)
    · have hf := ite_t c2 hf
      refine lv_iconst (v := 0) hx hb dX12_in_14 (by decide) ?_
      subst hf
      exact s_iretP rfl E dX12_in_15
    · have hf := ite_f c2 hf
      refine lv_iconst (v := 1) hx hb dX12_in_10 (by decide) ?_
      refine lv_goto (tgt := 15) hx hb dX12_in_11 (by decide) ?_
      subst hf
      exact s_iretP rfl E dX12_in_15
noncomputable def f_X12_held  (x0 : Int32) (x1 : Int32) : Int32 := (if 0 ≤ x0 then (if x0 ≤ x1 then x0 else x1) else 0)
theorem kyX12_held : Ky yX12_held cX12_held 2 (some FieldType.int) 2 := ⟨u6_79, u1_15, by decide, by decide, by decide, by decide +kernel⟩
set_option maxHeartbeats 4000000 in
set_option maxRecDepth 100000 in
theorem c_X12_held (l : Launch) (x0 : Int32) (x1 : Int32)  {vz : Int32} (hf : f_X12_held x0 x1 = vz) : Met l yX12_held (wsU yX12_held cX12_held 2 (some FieldType.int)) (rmX 1 0 0) (va_Pc [.int x0, .int x1] (fun _ => True)) (QP vz) 0 0 noA := by
  refine s_met0 (by decide) (Nat.le_of_ble_eq_true rfl) ?_
  intro p e s m args below meth c ls E hl
  have hl : lv_has ls 2 [(0, .int x0), (1, .int x1)] := hl
  have E : Cx p s m args meth c RX12 cX12_held 2 (some FieldType.int) := E
  obtain ⟨hx, hb, hr, hml, hown, hu, hlocks⟩ := id E
  rw [f_X12_held] at hf
  refine lv_iload_n hx hb dX12_held_0 rfl (lv_at hl 0 rfl) ?_
  refine lv_if_ge (tgt := 8) hx hb dX12_held_1 (by decide) (fun c1 => ?_) (fun c1 => ?_)
  · have hf := ite_t c1 hf
    refine lv_iload_n hx hb dX12_held_8 rfl (lv_at hl 0 rfl) ?_
    refine lv_iload_n hx hb dX12_held_9 rfl (lv_at hl 1 rfl) ?_
    refine lv_icmp_le (tgt := 17) hx hb dX12_held_10 (by decide) (fun c2 => ?_) (fun c2 => ?_)
    · have hf := ite_t c2 hf
      refine lv_iload_n hx hb dX12_held_17 rfl (lv_at hl 0 rfl) ?_
      subst hf
      exact s_iretP rfl E dX12_held_18
    · have hf := ite_f c2 hf
      refine lv_iload_n hx hb dX12_held_13 rfl (lv_at hl 1 rfl) ?_
      refine lv_goto (tgt := 18) hx hb dX12_held_14 (by decide) ?_
      subst hf
      exact s_iretP rfl E dX12_held_18
  · have hf := ite_f c1 hf
    refine lv_iconst (v := 0) hx hb dX12_held_4 (by decide) ?_
    refine lv_goto (tgt := 18) hx hb dX12_held_5 (by decide) ?_
    subst hf
    exact s_iretP rfl E dX12_held_18
noncomputable def f_X12_isSinger (G : Mem) (x1 : Int32) : Int32 := (f_X12_in x1 0 ((G 0 7) - 1))
theorem b_X12_isSinger (G : Mem) (x1 : Int32) : isB (f_X12_isSinger G x1) = true := by
  unfold f_X12_isSinger
  first | (repeat' split) <;> rfl | (repeat' split) <;> first | rfl | exact (b_X12_in x1 0 ((G 0 7) - 1))
theorem kyX12_isSinger : Ky yX12_isSinger cX12_isSinger 2 (some FieldType.boolean) 1 := ⟨u5_142, u1_15, by decide, by decide, by decide, by decide +kernel⟩
set_option maxHeartbeats 4000000 in
set_option maxRecDepth 100000 in
theorem c_X12_isSinger (l : Launch) (D : va_G) (K : List Nat) (sh : Nat → Ent) (ad : Nat → Nat) (cy : Nat → ClassId) (X : va_W) (B : State → Prop) (hcl : Bcl (AS K ad X) B) (hE : ∀ q ∈ shM, q.1 ∈ K ∧ sh q.1 = q.2) (G : Mem) (L : MemL) (O : MemO) (x1 : Int32)  {vz : Int32} (hf : f_X12_isSinger G x1 = vz) : Met l yX12_isSinger (wsU yX12_isSinger cX12_isSinger 2 (some FieldType.boolean)) (rmX 2 0 0) (va_Pc [.ref (ad 0), .int x1] (PS D K sh ad cy X B G L O)) (QI (AS K ad X) (PH D K sh ad cy X G L O) vz) 0 0 (AS K ad X) := by
  refine s_met (by decide) (Nat.le_of_ble_eq_true rfl) ?_
  intro p e s m args below meth c ls H locs E hK hBs hnm hI hl
  have hl : lv_has ls 2 [(0, .ref (ad 0)), (1, .int x1)] := hl
  have E : Cx p s m args meth c RX12 cX12_isSinger 2 (some FieldType.boolean) := E
  obtain ⟨hx, hb, hr, hml, hown, hu, hlocks⟩ := id E
  rw [f_X12_isSinger] at hf
  refine lv_iload_n hx hb dX12_isSinger_0 rfl (lv_at hl 1 rfl) ?_
  refine lv_iconst (v := 0) hx hb dX12_isSinger_1 (by decide) ?_
  refine lv_aload_n hx hb dX12_isSinger_2 rfl (lv_at hl 0 rfl) ?_
  refine s_get (v := .int (G 0 7)) hx hb hu inU12 hown hK hI (mE hE eM_0) rfl 7 (by decide) u4_195 (fun _ h => h) rfl rfl dX12_isSinger_3 ?_
  refine lv_iconst (v := 1) hx hb dX12_isSinger_6 (by decide) ?_
  refine lv_isub hx hb dX12_isSinger_7 ?_
  refine s_cSP (np := 3) (rest := []) E (c_X12_in l x1 0 ((G 0 7) - 1) rfl) kyX12_in u5_128 u5_129 (by decide) rfl hl.1 rfl (Nat.le_of_ble_eq_true rfl) ⟨Nat.zero_le _, Nat.zero_le _⟩ dX12_isSinger_8 ?_
  subst hf
  exact s_zret (isB_i (b_X12_in x1 0 ((G 0 7) - 1))) hx hb hr hI.2.2 hI.1 hlocks dX12_isSinger_11
noncomputable def f_X12_isStep (G : Mem) (x1 : Int32) : Int32 := (f_X12_in x1 0 ((G 0 1) - 1))
theorem b_X12_isStep (G : Mem) (x1 : Int32) : isB (f_X12_isStep G x1) = true := by
  unfold f_X12_isStep
  first | (repeat' split) <;> rfl | (repeat' split) <;> first | rfl | exact (b_X12_in x1 0 ((G 0 1) - 1))
theorem kyX12_isStep : Ky yX12_isStep cX12_isStep 2 (some FieldType.boolean) 1 := ⟨u6_4, u1_15, by decide, by decide, by decide, by decide +kernel⟩
set_option maxHeartbeats 4000000 in
set_option maxRecDepth 100000 in
theorem c_X12_isStep (l : Launch) (D : va_G) (K : List Nat) (sh : Nat → Ent) (ad : Nat → Nat) (cy : Nat → ClassId) (X : va_W) (B : State → Prop) (hcl : Bcl (AS K ad X) B) (hE : ∀ q ∈ shM, q.1 ∈ K ∧ sh q.1 = q.2) (G : Mem) (L : MemL) (O : MemO) (x1 : Int32)  {vz : Int32} (hf : f_X12_isStep G x1 = vz) : Met l yX12_isStep (wsU yX12_isStep cX12_isStep 2 (some FieldType.boolean)) (rmX 2 0 0) (va_Pc [.ref (ad 0), .int x1] (PS D K sh ad cy X B G L O)) (QI (AS K ad X) (PH D K sh ad cy X G L O) vz) 0 0 (AS K ad X) := by
  refine s_met (by decide) (Nat.le_of_ble_eq_true rfl) ?_
  intro p e s m args below meth c ls H locs E hK hBs hnm hI hl
  have hl : lv_has ls 2 [(0, .ref (ad 0)), (1, .int x1)] := hl
  have E : Cx p s m args meth c RX12 cX12_isStep 2 (some FieldType.boolean) := E
  obtain ⟨hx, hb, hr, hml, hown, hu, hlocks⟩ := id E
  rw [f_X12_isStep] at hf
  refine lv_iload_n hx hb dX12_isStep_0 rfl (lv_at hl 1 rfl) ?_
  refine lv_iconst (v := 0) hx hb dX12_isStep_1 (by decide) ?_
  refine lv_aload_n hx hb dX12_isStep_2 rfl (lv_at hl 0 rfl) ?_
  refine s_get (v := .int (G 0 1)) hx hb hu inU12 hown hK hI (mE hE eM_0) rfl 1 (by decide) u4_189 (fun _ h => h) rfl rfl dX12_isStep_3 ?_
  refine lv_iconst (v := 1) hx hb dX12_isStep_6 (by decide) ?_
  refine lv_isub hx hb dX12_isStep_7 ?_
  refine s_cSP (np := 3) (rest := []) E (c_X12_in l x1 0 ((G 0 1) - 1) rfl) kyX12_in u5_128 u5_129 (by decide) rfl hl.1 rfl (Nat.le_of_ble_eq_true rfl) ⟨Nat.zero_le _, Nat.zero_le _⟩ dX12_isStep_8 ?_
  subst hf
  exact s_zret (isB_i (b_X12_in x1 0 ((G 0 1) - 1))) hx hb hr hI.2.2 hI.1 hlocks dX12_isStep_11
noncomputable def f_X12_set (G : Mem) (x1 : Int32) (x2 : Int32) (x3 : Int32) : Option (Mem × Int32) := (if x1 = 0 then (if (f_X12_in x2 0 47) = 0 then some (G, (-2)) else (if (f_X12_in x3 0 9) = 0 then some (G, (-2)) else chk (inB x2 48) (bnd (G 1 x2.toNatClampNeg) (fun x4_5 => chk (inB x2 48) (bnd (up2 G 1 x2.toNatClampNeg x3) (fun G7 => some (G7, x4_5))))))) else if x1 = 1 then (if (f_X12_in x2 0 47) = 0 then some (G, (-2)) else (if (f_X12_in x3 0 1) = 0 then some (G, (-2)) else chk (inB x2 48) (bnd (G 2 x2.toNatClampNeg) (fun x4_12 => chk (inB x2 48) (bnd (up2 G 2 x2.toNatClampNeg x3) (fun G14 => some (G14, x4_12))))))) else if x1 = 2 then (if (f_X12_in x2 0 47) = 0 then some (G, (-2)) else (if (f_X12_in x3 0 1) = 0 then some (G, (-2)) else chk (inB x2 48) (bnd (G 3 x2.toNatClampNeg) (fun x4_19 => chk (inB x2 48) (bnd (up2 G 3 x2.toNatClampNeg x3) (fun G21 => some (G21, x4_19))))))) else if x1 = 3 then (if (f_X12_in x2 0 3) = 0 then some (G, (-2)) else (if (f_X12_in x3 0 9) = 0 then some (G, (-2)) else chk (inB x2 4) (bnd (G 4 x2.toNatClampNeg) (fun x4_26 => chk (inB x2 4) (bnd (up2 G 4 x2.toNatClampNeg x3) (fun G28 => some (G28, x4_26))))))) else if x1 = 4 then (if (f_X12_in x3 1 48) = 0 then some (G, (-2)) else bnd (G 0 1) (fun x4_31 => bnd (up2 G 0 1 x3) (fun G32 => some (G32, x4_31)))) else if x1 = 5 then (if (f_X12_in x3 0 5) = 0 then some (G, (-2)) else bnd (G 0 2) (fun x4_35 => bnd (up2 G 0 2 x3) (fun G36 => some (G36, x4_35)))) else some (G, (-2)))
theorem kyX12_set : Ky yX12_set cX12_set 5 (some FieldType.int) 3 := ⟨u5_127, u1_15, by decide, by decide, by decide, by decide +kernel⟩
set_option maxHeartbeats 4000000 in
set_option maxRecDepth 100000 in
theorem c_X12_set (l : Launch) (D : va_G) (K : List Nat) (sh : Nat → Ent) (ad : Nat → Nat) (cy : Nat → ClassId) (X : va_W) (B : State → Prop) (hcl : Bcl (AS K ad X) B) (hE : ∀ q ∈ shM, q.1 ∈ K ∧ sh q.1 = q.2) (G : Mem) (L : MemL) (O : MemO) (x1 : Int32) (x2 : Int32) (x3 : Int32) {Gz : Mem} {vz : Int32} (hf : f_X12_set G x1 x2 x3 = some (Gz, vz)) : Met l yX12_set (wsU yX12_set cX12_set 5 (some FieldType.int)) (rmX 2 0 0) (va_Pc [.ref (ad 0), .int x1, .int x2, .int x3] (PS D K sh ad cy X B G L O)) (QI (AS K ad X) (PH D K sh ad cy X Gz L O) vz) 0 0 (AS K ad X) := by
  refine s_met (by decide) (Nat.le_of_ble_eq_true rfl) ?_
  intro p e s m args below meth c ls H locs E hK hBs hnm hI hl
  have hl : lv_has ls 5 [(0, .ref (ad 0)), (1, .int x1), (2, .int x2), (3, .int x3)] := hl
  have E : Cx p s m args meth c RX12 cX12_set 5 (some FieldType.int) := E
  obtain ⟨hx, hb, hr, hml, hown, hu, hlocks⟩ := id E
  rw [f_X12_set] at hf
  refine lv_iload_n hx hb dX12_set_0 rfl (lv_at hl 1 rfl) ?_
  by_cases c1 : x1 = 0
  · have hf := ite_t c1 hf
    refine s_tbl (tgt := 40) 0 E dX12_set_1 c1 (by decide) (by decide) rfl (by decide) ?_
    refine lv_iload_n hx hb dX12_set_40 rfl (lv_at hl 2 rfl) ?_
    refine lv_iconst (v := 0) hx hb dX12_set_41 (by decide) ?_
    refine lv_bipush (v := 47) hx hb dX12_set_42 (by decide) ?_
    refine s_cSP (np := 3) (rest := []) E (c_X12_in l x2 0 47 rfl) kyX12_in u5_128 u5_129 (by decide) rfl hl.1 rfl (Nat.le_of_ble_eq_true rfl) ⟨Nat.zero_le _, Nat.zero_le _⟩ dX12_set_44 ?_
    refine lv_if_eq (tgt := 60) hx hb dX12_set_47 (by decide) (fun c2 => ?_) (fun c2 => ?_)
    · have hf := ite_t c2 hf
      refine lv_bipush (v := (-2)) hx hb dX12_set_60 (by decide) ?_
      cases hf
      exact s_iret hx hb hr hI.2.2 hI.1 hlocks dX12_set_62
    · have hf := ite_f c2 hf
      refine lv_iload_n hx hb dX12_set_50 rfl (lv_at hl 3 rfl) ?_
      refine lv_iconst (v := 0) hx hb dX12_set_51 (by decide) ?_
      refine lv_bipush (v := 9) hx hb dX12_set_52 (by decide) ?_
      refine s_cSP (np := 3) (rest := []) E (c_X12_in l x3 0 9 rfl) kyX12_in u5_128 u5_129 (by decide) rfl hl.1 rfl (Nat.le_of_ble_eq_true rfl) ⟨Nat.zero_le _, Nat.zero_le _⟩ dX12_set_54 ?_
      refine lv_if_ne (tgt := 63) hx hb dX12_set_57 (by decide) (fun c3 => ?_) (fun c3 => ?_)
      · have hf := ite_f c3 hf
        refine lv_aload_n hx hb dX12_set_63 rfl (lv_at hl 0 rfl) ?_
        refine s_get (v := .ref (ad 1)) hx hb hu inU12 hown hK hI (mE hE eM_0) rfl 3 (by decide) u4_191 (fun _ h => h) rfl rfl dX12_set_64 ?_
        refine lv_iload_n hx hb dX12_set_67 rfl (lv_at hl 2 rfl) ?_
        obtain ⟨h4, hf⟩ := chk_i hf
        refine s_ild hx hb hK hI (mE hE eM_1) (inB_i h4) dX12_set_68 ?_
        obtain ⟨x4_5, ex4_5, hf⟩ := bnd_i hf
        refine s_nmI ex4_5 ?_
        refine lv_istore (lv' := [(4, .int x4_5), (0, .ref (ad 0)), (1, .int x1), (2, .int x2), (3, .int x3)]) hx hb dX12_set_69 hl (by decide) rfl (fun ls hl => ?_)
        refine lv_aload_n hx hb dX12_set_71 rfl (lv_at hl 1 rfl) ?_
        refine s_get (v := .ref (ad 1)) hx hb hu inU12 hown hK hI (mE hE eM_0) rfl 3 (by decide) u4_191 (fun _ h => h) rfl rfl dX12_set_72 ?_
        refine lv_iload_n hx hb dX12_set_75 rfl (lv_at hl 3 rfl) ?_
        refine lv_iload_n hx hb dX12_set_76 rfl (lv_at hl 4 rfl) ?_
        obtain ⟨h6, hf⟩ := chk_i hf
        obtain ⟨G7, eG7, hf⟩ := bnd_i hf
        refine s_ist hx hb hK hI (mE hE eM_1) (inB_i h6) eG7 dX12_set_77 (fun H locs hI => ?_)
        refine lv_iload hx hb dX12_set_78 (lv_at hl 0 rfl) ?_
        cases hf
        exact s_iret hx hb hr hI.2.2 hI.1 hlocks dX12_set_80
      · have hf := ite_t c3 hf
        refine lv_bipush (v := (-2)) hx hb dX12_set_60 (by decide) ?_
        cases hf
        exact s_iret hx hb hr hI.2.2 hI.1 hlocks dX12_set_62
  · have hf := ite_f c1 hf
    by_cases c8 : x1 = 1
    · have hf := ite_t c8 hf
      refine s_tbl (tgt := 81) 1 E dX12_set_1 c8 (by decide) (by decide) rfl (by decide) ?_
      refine lv_iload_n hx hb dX12_set_81 rfl (lv_at hl 2 rfl) ?_
      refine lv_iconst (v := 0) hx hb dX12_set_82 (by decide) ?_
      refine lv_bipush (v := 47) hx hb dX12_set_83 (by decide) ?_
      refine s_cSP (np := 3) (rest := []) E (c_X12_in l x2 0 47 rfl) kyX12_in u5_128 u5_129 (by decide) rfl hl.1 rfl (Nat.le_of_ble_eq_true rfl) ⟨Nat.zero_le _, Nat.zero_le _⟩ dX12_set_85 ?_
      refine lv_if_eq (tgt := 100) hx hb dX12_set_88 (by decide) (fun c9 => ?_) (fun c9 => ?_)
      · have hf := ite_t c9 hf
        refine lv_bipush (v := (-2)) hx hb dX12_set_100 (by decide) ?_
        cases hf
        exact s_iret hx hb hr hI.2.2 hI.1 hlocks dX12_set_102
      · have hf := ite_f c9 hf
        refine lv_iload_n hx hb dX12_set_91 rfl (lv_at hl 3 rfl) ?_
        refine lv_iconst (v := 0) hx hb dX12_set_92 (by decide) ?_
        refine lv_iconst (v := 1) hx hb dX12_set_93 (by decide) ?_
        refine s_cSP (np := 3) (rest := []) E (c_X12_in l x3 0 1 rfl) kyX12_in u5_128 u5_129 (by decide) rfl hl.1 rfl (Nat.le_of_ble_eq_true rfl) ⟨Nat.zero_le _, Nat.zero_le _⟩ dX12_set_94 ?_
        refine lv_if_ne (tgt := 103) hx hb dX12_set_97 (by decide) (fun c10 => ?_) (fun c10 => ?_)
        · have hf := ite_f c10 hf
          refine lv_aload_n hx hb dX12_set_103 rfl (lv_at hl 0 rfl) ?_
          refine s_get (v := .ref (ad 2)) hx hb hu inU12 hown hK hI (mE hE eM_0) rfl 4 (by decide) u4_192 (fun _ h => h) rfl rfl dX12_set_104 ?_
          refine lv_iload_n hx hb dX12_set_107 rfl (lv_at hl 2 rfl) ?_
          obtain ⟨h11, hf⟩ := chk_i hf
          refine s_ild hx hb hK hI (mE hE eM_2) (inB_i h11) dX12_set_108 ?_
          obtain ⟨x4_12, ex4_12, hf⟩ := bnd_i hf
          refine s_nmI ex4_12 ?_
          refine lv_istore (lv' := [(4, .int x4_12), (0, .ref (ad 0)), (1, .int x1), (2, .int x2), (3, .int x3)]) hx hb dX12_set_109 hl (by decide) rfl (fun ls hl => ?_)
          refine lv_aload_n hx hb dX12_set_111 rfl (lv_at hl 1 rfl) ?_
          refine s_get (v := .ref (ad 2)) hx hb hu inU12 hown hK hI (mE hE eM_0) rfl 4 (by decide) u4_192 (fun _ h => h) rfl rfl dX12_set_112 ?_
          refine lv_iload_n hx hb dX12_set_115 rfl (lv_at hl 3 rfl) ?_
          refine lv_iload_n hx hb dX12_set_116 rfl (lv_at hl 4 rfl) ?_
          obtain ⟨h13, hf⟩ := chk_i hf
          obtain ⟨G14, eG14, hf⟩ := bnd_i hf
          refine s_ist hx hb hK hI (mE hE eM_2) (inB_i h13) eG14 dX12_set_117 (fun H locs hI => ?_)
          refine lv_iload hx hb dX12_set_118 (lv_at hl 0 rfl) ?_
          cases hf
          exact s_iret hx hb hr hI.2.2 hI.1 hlocks dX12_set_120
        · have hf := ite_t c10 hf
          refine lv_bipush (v := (-2)) hx hb dX12_set_100 (by decide) ?_
          cases hf
          exact s_iret hx hb hr hI.2.2 hI.1 hlocks dX12_set_102
    · have hf := ite_f c8 hf
      by_cases c15 : x1 = 2
      · have hf := ite_t c15 hf
        refine s_tbl (tgt := 121) 2 E dX12_set_1 c15 (by decide) (by decide) rfl (by decide) ?_
        refine lv_iload_n hx hb dX12_set_121 rfl (lv_at hl 2 rfl) ?_
        refine lv_iconst (v := 0) hx hb dX12_set_122 (by decide) ?_
        refine lv_bipush (v := 47) hx hb dX12_set_123 (by decide) ?_
        refine s_cSP (np := 3) (rest := []) E (c_X12_in l x2 0 47 rfl) kyX12_in u5_128 u5_129 (by decide) rfl hl.1 rfl (Nat.le_of_ble_eq_true rfl) ⟨Nat.zero_le _, Nat.zero_le _⟩ dX12_set_125 ?_
        refine lv_if_eq (tgt := 140) hx hb dX12_set_128 (by decide) (fun c16 => ?_) (fun c16 => ?_)
        · have hf := ite_t c16 hf
          refine lv_bipush (v := (-2)) hx hb dX12_set_140 (by decide) ?_
          cases hf
          exact s_iret hx hb hr hI.2.2 hI.1 hlocks dX12_set_142
        · have hf := ite_f c16 hf
          refine lv_iload_n hx hb dX12_set_131 rfl (lv_at hl 3 rfl) ?_
          refine lv_iconst (v := 0) hx hb dX12_set_132 (by decide) ?_
          refine lv_iconst (v := 1) hx hb dX12_set_133 (by decide) ?_
          refine s_cSP (np := 3) (rest := []) E (c_X12_in l x3 0 1 rfl) kyX12_in u5_128 u5_129 (by decide) rfl hl.1 rfl (Nat.le_of_ble_eq_true rfl) ⟨Nat.zero_le _, Nat.zero_le _⟩ dX12_set_134 ?_
          refine lv_if_ne (tgt := 143) hx hb dX12_set_137 (by decide) (fun c17 => ?_) (fun c17 => ?_)
          · have hf := ite_f c17 hf
            refine lv_aload_n hx hb dX12_set_143 rfl (lv_at hl 0 rfl) ?_
            refine s_get (v := .ref (ad 3)) hx hb hu inU12 hown hK hI (mE hE eM_0) rfl 5 (by decide) u4_193 (fun _ h => h) rfl rfl dX12_set_144 ?_
            refine lv_iload_n hx hb dX12_set_147 rfl (lv_at hl 2 rfl) ?_
            obtain ⟨h18, hf⟩ := chk_i hf
            refine s_ild hx hb hK hI (mE hE eM_3) (inB_i h18) dX12_set_148 ?_
            obtain ⟨x4_19, ex4_19, hf⟩ := bnd_i hf
            refine s_nmI ex4_19 ?_
            refine lv_istore (lv' := [(4, .int x4_19), (0, .ref (ad 0)), (1, .int x1), (2, .int x2), (3, .int x3)]) hx hb dX12_set_149 hl (by decide) rfl (fun ls hl => ?_)
            refine lv_aload_n hx hb dX12_set_151 rfl (lv_at hl 1 rfl) ?_
            refine s_get (v := .ref (ad 3)) hx hb hu inU12 hown hK hI (mE hE eM_0) rfl 5 (by decide) u4_193 (fun _ h => h) rfl rfl dX12_set_152 ?_
            refine lv_iload_n hx hb dX12_set_155 rfl (lv_at hl 3 rfl) ?_
            refine lv_iload_n hx hb dX12_set_156 rfl (lv_at hl 4 rfl) ?_
            obtain ⟨h20, hf⟩ := chk_i hf
            obtain ⟨G21, eG21, hf⟩ := bnd_i hf
            refine s_ist hx hb hK hI (mE hE eM_3) (inB_i h20) eG21 dX12_set_157 (fun H locs hI => ?_)
            refine lv_iload hx hb dX12_set_158 (lv_at hl 0 rfl) ?_
            cases hf
            exact s_iret hx hb hr hI.2.2 hI.1 hlocks dX12_set_160
          · have hf := ite_t c17 hf
            refine lv_bipush (v := (-2)) hx hb dX12_set_140 (by decide) ?_
            cases hf
            exact s_iret hx hb hr hI.2.2 hI.1 hlocks dX12_set_142
      · have hf := ite_f c15 hf
        by_cases c22 : x1 = 3
        · have hf := ite_t c22 hf
          refine s_tbl (tgt := 161) 3 E dX12_set_1 c22 (by decide) (by decide) rfl (by decide) ?_
          refine lv_iload_n hx hb dX12_set_161 rfl (lv_at hl 2 rfl) ?_
          refine lv_iconst (v := 0) hx hb dX12_set_162 (by decide) ?_
          refine lv_iconst (v := 3) hx hb dX12_set_163 (by decide) ?_
          refine s_cSP (np := 3) (rest := []) E (c_X12_in l x2 0 3 rfl) kyX12_in u5_128 u5_129 (by decide) rfl hl.1 rfl (Nat.le_of_ble_eq_true rfl) ⟨Nat.zero_le _, Nat.zero_le _⟩ dX12_set_164 ?_
          refine lv_if_eq (tgt := 180) hx hb dX12_set_167 (by decide) (fun c23 => ?_) (fun c23 => ?_)
          · have hf := ite_t c23 hf
            refine lv_bipush (v := (-2)) hx hb dX12_set_180 (by decide) ?_
            cases hf
            exact s_iret hx hb hr hI.2.2 hI.1 hlocks dX12_set_182
          · have hf := ite_f c23 hf
            refine lv_iload_n hx hb dX12_set_170 rfl (lv_at hl 3 rfl) ?_
            refine lv_iconst (v := 0) hx hb dX12_set_171 (by decide) ?_
            refine lv_bipush (v := 9) hx hb dX12_set_172 (by decide) ?_
            refine s_cSP (np := 3) (rest := []) E (c_X12_in l x3 0 9 rfl) kyX12_in u5_128 u5_129 (by decide) rfl hl.1 rfl (Nat.le_of_ble_eq_true rfl) ⟨Nat.zero_le _, Nat.zero_le _⟩ dX12_set_174 ?_
            refine lv_if_ne (tgt := 183) hx hb dX12_set_177 (by decide) (fun c24 => ?_) (fun c24 => ?_)
            · have hf := ite_f c24 hf
              refine lv_aload_n hx hb dX12_set_183 rfl (lv_at hl 0 rfl) ?_
              refine s_get (v := .ref (ad 4)) hx hb hu inU12 hown hK hI (mE hE eM_0) rfl 6 (by decide) u4_194 (fun _ h => h) rfl rfl dX12_set_184 ?_
              refine lv_iload_n hx hb dX12_set_187 rfl (lv_at hl 2 rfl) ?_
              obtain ⟨h25, hf⟩ := chk_i hf
              refine s_ild hx hb hK hI (mE hE eM_4) (inB_i h25) dX12_set_188 ?_
              obtain ⟨x4_26, ex4_26, hf⟩ := bnd_i hf
              refine s_nmI ex4_26 ?_
              refine lv_istore (lv' := [(4, .int x4_26), (0, .ref (ad 0)), (1, .int x1), (2, .int x2), (3, .int x3)]) hx hb dX12_set_189 hl (by decide) rfl (fun ls hl => ?_)
              refine lv_aload_n hx hb dX12_set_191 rfl (lv_at hl 1 rfl) ?_
              refine s_get (v := .ref (ad 4)) hx hb hu inU12 hown hK hI (mE hE eM_0) rfl 6 (by decide) u4_194 (fun _ h => h) rfl rfl dX12_set_192 ?_
              refine lv_iload_n hx hb dX12_set_195 rfl (lv_at hl 3 rfl) ?_
              refine lv_iload_n hx hb dX12_set_196 rfl (lv_at hl 4 rfl) ?_
              obtain ⟨h27, hf⟩ := chk_i hf
              obtain ⟨G28, eG28, hf⟩ := bnd_i hf
              refine s_ist hx hb hK hI (mE hE eM_4) (inB_i h27) eG28 dX12_set_197 (fun H locs hI => ?_)
              refine lv_iload hx hb dX12_set_198 (lv_at hl 0 rfl) ?_
              cases hf
              exact s_iret hx hb hr hI.2.2 hI.1 hlocks dX12_set_200
            · have hf := ite_t c24 hf
              refine lv_bipush (v := (-2)) hx hb dX12_set_180 (by decide) ?_
              cases hf
              exact s_iret hx hb hr hI.2.2 hI.1 hlocks dX12_set_182
        · have hf := ite_f c22 hf
          by_cases c29 : x1 = 4
          · have hf := ite_t c29 hf
            refine s_tbl (tgt := 201) 4 E dX12_set_1 c29 (by decide) (by decide) rfl (by decide) ?_
            refine lv_iload_n hx hb dX12_set_201 rfl (lv_at hl 3 rfl) ?_
            refine lv_iconst (v := 1) hx hb dX12_set_202 (by decide) ?_
            refine lv_bipush (v := 48) hx hb dX12_set_203 (by decide) ?_
            refine s_cSP (np := 3) (rest := []) E (c_X12_in l x3 1 48 rfl) kyX12_in u5_128 u5_129 (by decide) rfl hl.1 rfl (Nat.le_of_ble_eq_true rfl) ⟨Nat.zero_le _, Nat.zero_le _⟩ dX12_set_205 ?_
            refine lv_if_ne (tgt := 214) hx hb dX12_set_208 (by decide) (fun c30 => ?_) (fun c30 => ?_)
            · have hf := ite_f c30 hf
              refine lv_aload_n hx hb dX12_set_214 rfl (lv_at hl 0 rfl) ?_
              refine s_get (v := .int (G 0 1)) hx hb hu inU12 hown hK hI (mE hE eM_0) rfl 1 (by decide) u4_189 (fun _ h => h) rfl rfl dX12_set_215 ?_
              obtain ⟨x4_31, ex4_31, hf⟩ := bnd_i hf
              refine s_nmI ex4_31 ?_
              refine lv_istore (lv' := [(4, .int x4_31), (0, .ref (ad 0)), (1, .int x1), (2, .int x2), (3, .int x3)]) hx hb dX12_set_218 hl (by decide) rfl (fun ls hl => ?_)
              refine lv_aload_n hx hb dX12_set_220 rfl (lv_at hl 1 rfl) ?_
              refine lv_iload_n hx hb dX12_set_221 rfl (lv_at hl 4 rfl) ?_
              obtain ⟨G32, eG32, hf⟩ := bnd_i hf
              refine s_put (ty := .int) hx hb hu inU12 tyX12_ok nmX12 hown hK hI (mE hE eM_0) rfl 1 (by decide) u4_189 (fun _ h => h) rfl rfl (tyX12_ok 1 (by decide)) rfl rfl eG32 dX12_set_222 (fun H locs hI => ?_)
              refine lv_iload hx hb dX12_set_225 (lv_at hl 0 rfl) ?_
              cases hf
              exact s_iret hx hb hr hI.2.2 hI.1 hlocks dX12_set_227
            · have hf := ite_t c30 hf
              refine lv_bipush (v := (-2)) hx hb dX12_set_211 (by decide) ?_
              cases hf
              exact s_iret hx hb hr hI.2.2 hI.1 hlocks dX12_set_213
          · have hf := ite_f c29 hf
            by_cases c33 : x1 = 5
            · have hf := ite_t c33 hf
              refine s_tbl (tgt := 228) 5 E dX12_set_1 c33 (by decide) (by decide) rfl (by decide) ?_
              refine lv_iload_n hx hb dX12_set_228 rfl (lv_at hl 3 rfl) ?_
              refine lv_iconst (v := 0) hx hb dX12_set_229 (by decide) ?_
              refine lv_iconst (v := 5) hx hb dX12_set_230 (by decide) ?_
              refine s_cSP (np := 3) (rest := []) E (c_X12_in l x3 0 5 rfl) kyX12_in u5_128 u5_129 (by decide) rfl hl.1 rfl (Nat.le_of_ble_eq_true rfl) ⟨Nat.zero_le _, Nat.zero_le _⟩ dX12_set_231 ?_
              refine lv_if_ne (tgt := 240) hx hb dX12_set_234 (by decide) (fun c34 => ?_) (fun c34 => ?_)
              · have hf := ite_f c34 hf
                refine lv_aload_n hx hb dX12_set_240 rfl (lv_at hl 0 rfl) ?_
                refine s_get (v := .int (G 0 2)) hx hb hu inU12 hown hK hI (mE hE eM_0) rfl 2 (by decide) u4_190 (fun _ h => h) rfl rfl dX12_set_241 ?_
                obtain ⟨x4_35, ex4_35, hf⟩ := bnd_i hf
                refine s_nmI ex4_35 ?_
                refine lv_istore (lv' := [(4, .int x4_35), (0, .ref (ad 0)), (1, .int x1), (2, .int x2), (3, .int x3)]) hx hb dX12_set_244 hl (by decide) rfl (fun ls hl => ?_)
                refine lv_aload_n hx hb dX12_set_246 rfl (lv_at hl 1 rfl) ?_
                refine lv_iload_n hx hb dX12_set_247 rfl (lv_at hl 4 rfl) ?_
                obtain ⟨G36, eG36, hf⟩ := bnd_i hf
                refine s_put (ty := .int) hx hb hu inU12 tyX12_ok nmX12 hown hK hI (mE hE eM_0) rfl 2 (by decide) u4_190 (fun _ h => h) rfl rfl (tyX12_ok 2 (by decide)) rfl rfl eG36 dX12_set_248 (fun H locs hI => ?_)
                refine lv_iload hx hb dX12_set_251 (lv_at hl 0 rfl) ?_
                cases hf
                exact s_iret hx hb hr hI.2.2 hI.1 hlocks dX12_set_253
              · have hf := ite_t c34 hf
                refine lv_bipush (v := (-2)) hx hb dX12_set_237 (by decide) ?_
                cases hf
                exact s_iret hx hb hr hI.2.2 hI.1 hlocks dX12_set_239
            · have hf := ite_f c33 hf
              refine lv_tableOut (tgt := 254) hx hb dX12_set_1 (by have q0 := lv_neT c1 (show (0 : Int32).toInt = 0 from rfl); have q1 := lv_neT c8 (show (1 : Int32).toInt = 1 from rfl); have q2 := lv_neT c15 (show (2 : Int32).toInt = 2 from rfl); have q3 := lv_neT c22 (show (3 : Int32).toInt = 3 from rfl); have q4 := lv_neT c29 (show (4 : Int32).toInt = 4 from rfl); have q5 := lv_neT c33 (show (5 : Int32).toInt = 5 from rfl); omega) (by decide) ?_
              refine lv_bipush (v := (-2)) hx hb dX12_set_254 (by decide) ?_
              cases hf
              exact s_iret hx hb hr hI.2.2 hI.1 hlocks dX12_set_256
noncomputable def f_X12_singer (G : Mem) (x1 : Int32) (x2 : Int32) (x3 : Int32) : Option (Mem × Int32) := (if (f_X12_in x1 0 5) = 0 then some (G, (-2)) else (if x2 < 0 then some (G, (-2)) else (if 4 ≤ (x2 / 1000) then some (G, (-2)) else (if ((x2 / 100) - (x2 / 100) / 10 * 10) = 0 then some (G, (-2)) else (if (f_X12_in (x2 - x2 / 100 * 100) 2 40) = 0 then some (G, (-2)) else (if (f_X12_in x3 0 9) = 0 then some (G, (-2)) else (if (G 0 7) = 10 then some (G, (-4)) else chk (inB (G 0 7) 10) (bnd (up2 G 5 (G 0 7).toNatClampNeg x1) (fun G9 => chk (inB (G9 0 7) 10) (bnd (up2 G9 6 (G9 0 7).toNatClampNeg (x2 / 1000)) (fun G11 => chk (inB (G11 0 7) 10) (bnd (up2 G11 9 (G11 0 7).toNatClampNeg ((x2 / 100) - (x2 / 100) / 10 * 10)) (fun G13 => chk (inB (G13 0 7) 10) (bnd (up2 G13 7 (G13 0 7).toNatClampNeg (x2 - x2 / 100 * 100)) (fun G15 => chk (inB (G15 0 7) 10) (bnd (up2 G15 8 (G15 0 7).toNatClampNeg x3) (fun G17 => bnd (up2 G17 0 7 ((G17 0 7) + 1)) (fun G18 => some (G18, ((G18 0 7) - 1))))))))))))))))))))
theorem kyX12_singer : Ky yX12_singer cX12_singer 4 (some FieldType.int) 3 := ⟨u5_134, u1_15, by decide, by decide, by decide, by decide +kernel⟩
set_option maxHeartbeats 4000000 in
set_option maxRecDepth 100000 in
theorem c_X12_singer (l : Launch) (D : va_G) (K : List Nat) (sh : Nat → Ent) (ad : Nat → Nat) (cy : Nat → ClassId) (X : va_W) (B : State → Prop) (hcl : Bcl (AS K ad X) B) (hE : ∀ q ∈ shM, q.1 ∈ K ∧ sh q.1 = q.2) (G : Mem) (L : MemL) (O : MemO) (x1 : Int32) (x2 : Int32) (x3 : Int32) {Gz : Mem} {vz : Int32} (hf : f_X12_singer G x1 x2 x3 = some (Gz, vz)) : Met l yX12_singer (wsU yX12_singer cX12_singer 4 (some FieldType.int)) (rmX 2 0 0) (va_Pc [.ref (ad 0), .int x1, .int x2, .int x3] (PS D K sh ad cy X B G L O)) (QI (AS K ad X) (PH D K sh ad cy X Gz L O) vz) 0 0 (AS K ad X) := by
  refine s_met (by decide) (Nat.le_of_ble_eq_true rfl) ?_
  intro p e s m args below meth c ls H locs E hK hBs hnm hI hl
  have hl : lv_has ls 4 [(0, .ref (ad 0)), (1, .int x1), (2, .int x2), (3, .int x3)] := hl
  have E : Cx p s m args meth c RX12 cX12_singer 4 (some FieldType.int) := E
  obtain ⟨hx, hb, hr, hml, hown, hu, hlocks⟩ := id E
  rw [f_X12_singer] at hf
  refine lv_iload_n hx hb dX12_singer_0 rfl (lv_at hl 1 rfl) ?_
  refine lv_iconst (v := 0) hx hb dX12_singer_1 (by decide) ?_
  refine lv_iconst (v := 5) hx hb dX12_singer_2 (by decide) ?_
  refine s_cSP (np := 3) (rest := []) E (c_X12_in l x1 0 5 rfl) kyX12_in u5_128 u5_129 (by decide) rfl hl.1 rfl (Nat.le_of_ble_eq_true rfl) ⟨Nat.zero_le _, Nat.zero_le _⟩ dX12_singer_3 ?_
  refine lv_if_eq (tgt := 55) hx hb dX12_singer_6 (by decide) (fun c1 => ?_) (fun c1 => ?_)
  · have hf := ite_t c1 hf
    refine lv_bipush (v := (-2)) hx hb dX12_singer_55 (by decide) ?_
    cases hf
    exact s_iret hx hb hr hI.2.2 hI.1 hlocks dX12_singer_57
  · have hf := ite_f c1 hf
    refine lv_iload_n hx hb dX12_singer_9 rfl (lv_at hl 2 rfl) ?_
    refine lv_if_lt (tgt := 55) hx hb dX12_singer_10 (by decide) (fun c2 => ?_) (fun c2 => ?_)
    · have hf := ite_t c2 hf
      refine lv_bipush (v := (-2)) hx hb dX12_singer_55 (by decide) ?_
      cases hf
      exact s_iret hx hb hr hI.2.2 hI.1 hlocks dX12_singer_57
    · have hf := ite_f c2 hf
      refine lv_iload_n hx hb dX12_singer_13 rfl (lv_at hl 2 rfl) ?_
      refine lv_sipush (v := 1000) hx hb dX12_singer_14 (by decide) ?_
      refine lv_idiv hx hb dX12_singer_17 (by decide) ?_
      refine lv_iconst (v := 4) hx hb dX12_singer_18 (by decide) ?_
      refine lv_icmp_ge (tgt := 55) hx hb dX12_singer_19 (by decide) (fun c3 => ?_) (fun c3 => ?_)
      · have hf := ite_t c3 hf
        refine lv_bipush (v := (-2)) hx hb dX12_singer_55 (by decide) ?_
        cases hf
        exact s_iret hx hb hr hI.2.2 hI.1 hlocks dX12_singer_57
      · have hf := ite_f c3 hf
        refine lv_iload_n hx hb dX12_singer_22 rfl (lv_at hl 2 rfl) ?_
        refine lv_bipush (v := 100) hx hb dX12_singer_23 (by decide) ?_
        refine lv_idiv hx hb dX12_singer_25 (by decide) ?_
        refine lv_bipush (v := 10) hx hb dX12_singer_26 (by decide) ?_
        refine lv_irem hx hb dX12_singer_28 (by decide) ?_
        refine lv_if_eq (tgt := 55) hx hb dX12_singer_29 (by decide) (fun c4 => ?_) (fun c4 => ?_)
        · have hf := ite_t c4 hf
          refine lv_bipush (v := (-2)) hx hb dX12_singer_55 (by decide) ?_
          cases hf
          exact s_iret hx hb hr hI.2.2 hI.1 hlocks dX12_singer_57
        · have hf := ite_f c4 hf
          refine lv_iload_n hx hb dX12_singer_32 rfl (lv_at hl 2 rfl) ?_
          refine lv_bipush (v := 100) hx hb dX12_singer_33 (by decide) ?_
          refine lv_irem hx hb dX12_singer_35 (by decide) ?_
          refine lv_iconst (v := 2) hx hb dX12_singer_36 (by decide) ?_
          refine lv_bipush (v := 40) hx hb dX12_singer_37 (by decide) ?_
          refine s_cSP (np := 3) (rest := []) E (c_X12_in l (x2 - x2 / 100 * 100) 2 40 rfl) kyX12_in u5_128 u5_129 (by decide) rfl hl.1 rfl (Nat.le_of_ble_eq_true rfl) ⟨Nat.zero_le _, Nat.zero_le _⟩ dX12_singer_39 ?_
          refine lv_if_eq (tgt := 55) hx hb dX12_singer_42 (by decide) (fun c5 => ?_) (fun c5 => ?_)
          · have hf := ite_t c5 hf
            refine lv_bipush (v := (-2)) hx hb dX12_singer_55 (by decide) ?_
            cases hf
            exact s_iret hx hb hr hI.2.2 hI.1 hlocks dX12_singer_57
          · have hf := ite_f c5 hf
            refine lv_iload_n hx hb dX12_singer_45 rfl (lv_at hl 3 rfl) ?_
            refine lv_iconst (v := 0) hx hb dX12_singer_46 (by decide) ?_
            refine lv_bipush (v := 9) hx hb dX12_singer_47 (by decide) ?_
            refine s_cSP (np := 3) (rest := []) E (c_X12_in l x3 0 9 rfl) kyX12_in u5_128 u5_129 (by decide) rfl hl.1 rfl (Nat.le_of_ble_eq_true rfl) ⟨Nat.zero_le _, Nat.zero_le _⟩ dX12_singer_49 ?_
            refine lv_if_ne (tgt := 58) hx hb dX12_singer_52 (by decide) (fun c6 => ?_) (fun c6 => ?_)
            · have hf := ite_f c6 hf
              refine lv_aload_n hx hb dX12_singer_58 rfl (lv_at hl 0 rfl) ?_
              refine s_get (v := .int (G 0 7)) hx hb hu inU12 hown hK hI (mE hE eM_0) rfl 7 (by decide) u4_195 (fun _ h => h) rfl rfl dX12_singer_59 ?_
              refine lv_bipush (v := 10) hx hb dX12_singer_62 (by decide) ?_
              refine lv_icmp_ne (tgt := 70) hx hb dX12_singer_64 (by decide) (fun c7 => ?_) (fun c7 => ?_)
              · have hf := ite_f c7 hf
                refine lv_aload_n hx hb dX12_singer_70 rfl (lv_at hl 0 rfl) ?_
                refine s_get (v := .ref (ad 5)) hx hb hu inU12 hown hK hI (mE hE eM_0) rfl 8 (by decide) u4_196 (fun _ h => h) rfl rfl dX12_singer_71 ?_
                refine lv_aload_n hx hb dX12_singer_74 rfl (lv_at hl 0 rfl) ?_
                refine s_get (v := .int (G 0 7)) hx hb hu inU12 hown hK hI (mE hE eM_0) rfl 7 (by decide) u4_195 (fun _ h => h) rfl rfl dX12_singer_75 ?_
                refine lv_iload_n hx hb dX12_singer_78 rfl (lv_at hl 1 rfl) ?_
                obtain ⟨h8, hf⟩ := chk_i hf
                obtain ⟨G9, eG9, hf⟩ := bnd_i hf
                refine s_ist hx hb hK hI (mE hE eM_5) (inB_i h8) eG9 dX12_singer_79 (fun H locs hI => ?_)
                refine lv_aload_n hx hb dX12_singer_80 rfl (lv_at hl 0 rfl) ?_
                refine s_get (v := .ref (ad 6)) hx hb hu inU12 hown hK hI (mE hE eM_0) rfl 9 (by decide) u4_197 (fun _ h => h) rfl rfl dX12_singer_81 ?_
                refine lv_aload_n hx hb dX12_singer_84 rfl (lv_at hl 0 rfl) ?_
                refine s_get (v := .int (G9 0 7)) hx hb hu inU12 hown hK hI (mE hE eM_0) rfl 7 (by decide) u4_195 (fun _ h => h) rfl rfl dX12_singer_85 ?_
                refine lv_iload_n hx hb dX12_singer_88 rfl (lv_at hl 2 rfl) ?_
                refine lv_sipush (v := 1000) hx hb dX12_singer_89 (by decide) ?_
                refine lv_idiv hx hb dX12_singer_92 (by decide) ?_
                obtain ⟨h10, hf⟩ := chk_i hf
                obtain ⟨G11, eG11, hf⟩ := bnd_i hf
                refine s_ist hx hb hK hI (mE hE eM_6) (inB_i h10) eG11 dX12_singer_93 (fun H locs hI => ?_)
                refine lv_aload_n hx hb dX12_singer_94 rfl (lv_at hl 0 rfl) ?_
                refine s_get (v := .ref (ad 9)) hx hb hu inU12 hown hK hI (mE hE eM_0) rfl 12 (by decide) u4_200 (fun _ h => h) rfl rfl dX12_singer_95 ?_
                refine lv_aload_n hx hb dX12_singer_98 rfl (lv_at hl 0 rfl) ?_
                refine s_get (v := .int (G11 0 7)) hx hb hu inU12 hown hK hI (mE hE eM_0) rfl 7 (by decide) u4_195 (fun _ h => h) rfl rfl dX12_singer_99 ?_
                refine lv_iload_n hx hb dX12_singer_102 rfl (lv_at hl 2 rfl) ?_
                refine lv_bipush (v := 100) hx hb dX12_singer_103 (by decide) ?_
                refine lv_idiv hx hb dX12_singer_105 (by decide) ?_
                refine lv_bipush (v := 10) hx hb dX12_singer_106 (by decide) ?_
                refine lv_irem hx hb dX12_singer_108 (by decide) ?_
                obtain ⟨h12, hf⟩ := chk_i hf
                obtain ⟨G13, eG13, hf⟩ := bnd_i hf
                refine s_ist hx hb hK hI (mE hE eM_9) (inB_i h12) eG13 dX12_singer_109 (fun H locs hI => ?_)
                refine lv_aload_n hx hb dX12_singer_110 rfl (lv_at hl 0 rfl) ?_
                refine s_get (v := .ref (ad 7)) hx hb hu inU12 hown hK hI (mE hE eM_0) rfl 10 (by decide) u4_198 (fun _ h => h) rfl rfl dX12_singer_111 ?_
                refine lv_aload_n hx hb dX12_singer_114 rfl (lv_at hl 0 rfl) ?_
                refine s_get (v := .int (G13 0 7)) hx hb hu inU12 hown hK hI (mE hE eM_0) rfl 7 (by decide) u4_195 (fun _ h => h) rfl rfl dX12_singer_115 ?_
                refine lv_iload_n hx hb dX12_singer_118 rfl (lv_at hl 2 rfl) ?_
                refine lv_bipush (v := 100) hx hb dX12_singer_119 (by decide) ?_
                refine lv_irem hx hb dX12_singer_121 (by decide) ?_
                obtain ⟨h14, hf⟩ := chk_i hf
                obtain ⟨G15, eG15, hf⟩ := bnd_i hf
                refine s_ist hx hb hK hI (mE hE eM_7) (inB_i h14) eG15 dX12_singer_122 (fun H locs hI => ?_)
                refine lv_aload_n hx hb dX12_singer_123 rfl (lv_at hl 0 rfl) ?_
                refine s_get (v := .ref (ad 8)) hx hb hu inU12 hown hK hI (mE hE eM_0) rfl 11 (by decide) u4_199 (fun _ h => h) rfl rfl dX12_singer_124 ?_
                refine lv_aload_n hx hb dX12_singer_127 rfl (lv_at hl 0 rfl) ?_
                refine s_get (v := .int (G15 0 7)) hx hb hu inU12 hown hK hI (mE hE eM_0) rfl 7 (by decide) u4_195 (fun _ h => h) rfl rfl dX12_singer_128 ?_
                refine lv_iload_n hx hb dX12_singer_131 rfl (lv_at hl 3 rfl) ?_
                obtain ⟨h16, hf⟩ := chk_i hf
                obtain ⟨G17, eG17, hf⟩ := bnd_i hf
                refine s_ist hx hb hK hI (mE hE eM_8) (inB_i h16) eG17 dX12_singer_132 (fun H locs hI => ?_)
                refine lv_aload_n hx hb dX12_singer_133 rfl (lv_at hl 0 rfl) ?_
                refine lv_dup hx hb dX12_singer_134 rfl ?_
                refine s_get (v := .int (G17 0 7)) hx hb hu inU12 hown hK hI (mE hE eM_0) rfl 7 (by decide) u4_195 (fun _ h => h) rfl rfl dX12_singer_135 ?_
                refine lv_iconst (v := 1) hx hb dX12_singer_138 (by decide) ?_
                refine lv_iadd hx hb dX12_singer_139 ?_
                obtain ⟨G18, eG18, hf⟩ := bnd_i hf
                refine s_put (ty := .int) hx hb hu inU12 tyX12_ok nmX12 hown hK hI (mE hE eM_0) rfl 7 (by decide) u4_195 (fun _ h => h) rfl rfl (tyX12_ok 7 (by decide)) rfl rfl eG18 dX12_singer_140 (fun H locs hI => ?_)
                refine lv_aload_n hx hb dX12_singer_143 rfl (lv_at hl 0 rfl) ?_
                refine s_get (v := .int (G18 0 7)) hx hb hu inU12 hown hK hI (mE hE eM_0) rfl 7 (by decide) u4_195 (fun _ h => h) rfl rfl dX12_singer_144 ?_
                refine lv_iconst (v := 1) hx hb dX12_singer_147 (by decide) ?_
                refine lv_isub hx hb dX12_singer_148 ?_
                cases hf
                exact s_iret hx hb hr hI.2.2 hI.1 hlocks dX12_singer_149
              · have hf := ite_t c7 hf
                refine lv_bipush (v := (-4)) hx hb dX12_singer_67 (by decide) ?_
                cases hf
                exact s_iret hx hb hr hI.2.2 hI.1 hlocks dX12_singer_69
            · have hf := ite_t c6 hf
              refine lv_bipush (v := (-2)) hx hb dX12_singer_55 (by decide) ?_
              cases hf
              exact s_iret hx hb hr hI.2.2 hI.1 hlocks dX12_singer_57
noncomputable def f_X12_voice (G : Mem) (x1 : Int32) (x2 : Int32) : Option (Mem × Int32) := (if (f_X12_isSinger G x1) = 0 then some (G, (-2)) else (if (f_X12_in x2 0 3) = 0 then some (G, (-2)) else chk (inB x1 10) (bnd (G 6 x1.toNatClampNeg) (fun x3_4 => chk (inB x1 10) (bnd (up2 G 6 x1.toNatClampNeg x2) (fun G6 => some (G6, x3_4)))))))
theorem kyX12_voice : Ky yX12_voice cX12_voice 4 (some FieldType.int) 2 := ⟨u5_138, u1_15, by decide, by decide, by decide, by decide +kernel⟩
set_option maxHeartbeats 4000000 in
set_option maxRecDepth 100000 in
theorem c_X12_voice (l : Launch) (D : va_G) (K : List Nat) (sh : Nat → Ent) (ad : Nat → Nat) (cy : Nat → ClassId) (X : va_W) (B : State → Prop) (hcl : Bcl (AS K ad X) B) (hE : ∀ q ∈ shM, q.1 ∈ K ∧ sh q.1 = q.2) (G : Mem) (L : MemL) (O : MemO) (x1 : Int32) (x2 : Int32) {Gz : Mem} {vz : Int32} (hf : f_X12_voice G x1 x2 = some (Gz, vz)) : Met l yX12_voice (wsU yX12_voice cX12_voice 4 (some FieldType.int)) (rmX 3 0 0) (va_Pc [.ref (ad 0), .int x1, .int x2] (PS D K sh ad cy X B G L O)) (QI (AS K ad X) (PH D K sh ad cy X Gz L O) vz) 0 0 (AS K ad X) := by
  refine s_met (by decide) (Nat.le_of_ble_eq_true rfl) ?_
  intro p e s m args below meth c ls H locs E hK hBs hnm hI hl
  have hl : lv_has ls 4 [(0, .ref (ad 0)), (1, .int x1), (2, .int x2)] := hl
  have E : Cx p s m args meth c RX12 cX12_voice 4 (some FieldType.int) := E
  obtain ⟨hx, hb, hr, hml, hown, hu, hlocks⟩ := id E
  rw [f_X12_voice] at hf
  refine lv_aload_n hx hb dX12_voice_0 rfl (lv_at hl 0 rfl) ?_
  refine lv_iload_n hx hb dX12_voice_1 rfl (lv_at hl 1 rfl) ?_
  refine s_afI hI (s_runV (rest := []) (As := [.int x1]) (np := 1) E hK hI (s_B hcl hBs hI) hcl.2 (mE hE eM_0) rfl (c_X12_isSinger l D K sh ad cy X B hcl hE G L O x1 rfl) kyX12_isSinger u5_139 u5_141 up_25 (by decide) rfl hl.1 rfl (Nat.le_of_ble_eq_true rfl) ⟨Nat.zero_le _, Nat.zero_le _⟩ dX12_voice_2) (fun H locs hI => ?_)
  refine lv_if_eq (tgt := 17) hx hb dX12_voice_5 (by decide) (fun c1 => ?_) (fun c1 => ?_)
  · have hf := ite_t c1 hf
    refine lv_bipush (v := (-2)) hx hb dX12_voice_17 (by decide) ?_
    cases hf
    exact s_iret hx hb hr hI.2.2 hI.1 hlocks dX12_voice_19
  · have hf := ite_f c1 hf
    refine lv_iload_n hx hb dX12_voice_8 rfl (lv_at hl 2 rfl) ?_
    refine lv_iconst (v := 0) hx hb dX12_voice_9 (by decide) ?_
    refine lv_iconst (v := 3) hx hb dX12_voice_10 (by decide) ?_
    refine s_cSP (np := 3) (rest := []) E (c_X12_in l x2 0 3 rfl) kyX12_in u5_128 u5_129 (by decide) rfl hl.1 rfl (Nat.le_of_ble_eq_true rfl) ⟨Nat.zero_le _, Nat.zero_le _⟩ dX12_voice_11 ?_
    refine lv_if_ne (tgt := 20) hx hb dX12_voice_14 (by decide) (fun c2 => ?_) (fun c2 => ?_)
    · have hf := ite_f c2 hf
      refine lv_aload_n hx hb dX12_voice_20 rfl (lv_at hl 0 rfl) ?_
      refine s_get (v := .ref (ad 6)) hx hb hu inU12 hown hK hI (mE hE eM_0) rfl 9 (by decide) u4_197 (fun _ h => h) rfl rfl dX12_voice_21 ?_
      refine lv_iload_n hx hb dX12_voice_24 rfl (lv_at hl 1 rfl) ?_
      obtain ⟨h3, hf⟩ := chk_i hf
      refine s_ild hx hb hK hI (mE hE eM_6) (inB_i h3) dX12_voice_25 ?_
      obtain ⟨x3_4, ex3_4, hf⟩ := bnd_i hf
      refine s_nmI ex3_4 ?_
      refine lv_istore_n (lv' := [(3, .int x3_4), (0, .ref (ad 0)), (1, .int x1), (2, .int x2)]) hx hb dX12_voice_26 rfl hl (by decide) rfl (fun ls hl => ?_)
      refine lv_aload_n hx hb dX12_voice_27 rfl (lv_at hl 1 rfl) ?_
      refine s_get (v := .ref (ad 6)) hx hb hu inU12 hown hK hI (mE hE eM_0) rfl 9 (by decide) u4_197 (fun _ h => h) rfl rfl dX12_voice_28 ?_
      refine lv_iload_n hx hb dX12_voice_31 rfl (lv_at hl 2 rfl) ?_
      refine lv_iload_n hx hb dX12_voice_32 rfl (lv_at hl 3 rfl) ?_
      obtain ⟨h5, hf⟩ := chk_i hf
      obtain ⟨G6, eG6, hf⟩ := bnd_i hf
      refine s_ist hx hb hK hI (mE hE eM_6) (inB_i h5) eG6 dX12_voice_33 (fun H locs hI => ?_)
      refine lv_iload_n hx hb dX12_voice_34 rfl (lv_at hl 0 rfl) ?_
      cases hf
      exact s_iret hx hb hr hI.2.2 hI.1 hlocks dX12_voice_35
    · have hf := ite_t c2 hf
      refine lv_bipush (v := (-2)) hx hb dX12_voice_17 (by decide) ?_
      cases hf
      exact s_iret hx hb hr hI.2.2 hI.1 hlocks dX12_voice_19
noncomputable def j_X12_canHold_119 (G : Mem) (x1 : Int32) (x2 : Int32) (x3 : Int32)  (x5 : Int32) : Option (Int32) := (if 1 ≤ x5 then some x5 else some 1)
noncomputable def f_X12_canHold (G : Mem) (x1 : Int32) (x2 : Int32) (x3 : Int32) : Option (Int32) := chk (inB x1 10) (bnd ((G 7 x1.toNatClampNeg) - x3) (fun x4_2 => chk (inB x1 10) ((if (G 5 x1.toNatClampNeg) = 1 then bnd (x4_2 + (x3 / 2)) (fun x5_5 => j_X12_canHold_119 G x1 x2 x3 x5_5) else if (G 5 x1.toNatClampNeg) = 2 then bnd (x4_2 - x2) (fun x5_8 => j_X12_canHold_119 G x1 x2 x3 x5_8) else if (G 5 x1.toNatClampNeg) = 3 then chk (inB x1 10) (bnd ((x4_2 - x2) - (G 8 x1.toNatClampNeg)) (fun x5_11 => j_X12_canHold_119 G x1 x2 x3 x5_11)) else if (G 5 x1.toNatClampNeg) = 4 then chk (inB x1 10) (bnd ((x4_2 + (x3 / 2)) + (G 8 x1.toNatClampNeg)) (fun x5_14 => j_X12_canHold_119 G x1 x2 x3 x5_14)) else if (G 5 x1.toNatClampNeg) = 5 then bnd (x4_2 / 2) (fun x5_16 => j_X12_canHold_119 G x1 x2 x3 x5_16) else j_X12_canHold_119 G x1 x2 x3 x4_2))))
theorem kyX12_canHold : Ky yX12_canHold cX12_canHold 6 (some FieldType.int) 3 := ⟨u5_150, u1_15, by decide, by decide, by decide, by decide +kernel⟩
set_option maxHeartbeats 4000000 in
set_option maxRecDepth 100000 in
theorem c_X12_canHold (l : Launch) (D : va_G) (K : List Nat) (sh : Nat → Ent) (ad : Nat → Nat) (cy : Nat → ClassId) (X : va_W) (B : State → Prop) (hcl : Bcl (AS K ad X) B) (hE : ∀ q ∈ shM, q.1 ∈ K ∧ sh q.1 = q.2) (G : Mem) (L : MemL) (O : MemO) (x1 : Int32) (x2 : Int32) (x3 : Int32)  {vz : Int32} (hf : f_X12_canHold G x1 x2 x3 = some vz) : Met l yX12_canHold (wsU yX12_canHold cX12_canHold 6 (some FieldType.int)) (rmX 1 0 0) (va_Pc [.ref (ad 0), .int x1, .int x2, .int x3] (PS D K sh ad cy X B G L O)) (QI (AS K ad X) (PH D K sh ad cy X G L O) vz) 0 0 (AS K ad X) := by
  refine s_met (by decide) (Nat.le_of_ble_eq_true rfl) ?_
  intro p e s m args below meth c ls H locs E hK hBs hnm hI hl
  have hl : lv_has ls 6 [(0, .ref (ad 0)), (1, .int x1), (2, .int x2), (3, .int x3)] := hl
  have E : Cx p s m args meth c RX12 cX12_canHold 6 (some FieldType.int) := E
  obtain ⟨hx, hb, hr, hml, hown, hu, hlocks⟩ := id E
  have B119 : ∀    (x5 : Int32) (H : Heap) (locs : List Loc) (ls : Array Slot), lv_has ls 6 [(5, .int x5)] → IS D K sh ad cy X (AS K ad X) s.heap H locs G L O → j_X12_canHold_119 G x1 x2 x3 x5 = some vz → W p l e (rmX 1 0 0) s m args below meth c H locs 0 0 (MQ below (QI (AS K ad X) (PH D K sh ad cy X G L O) vz) args s 0 0 (AS K ad X)) (F0 m 119 ls []) := by
    intro  x5 H locs ls hl hI hf
    rw [j_X12_canHold_119] at hf
    refine lv_iload hx hb dX12_canHold_119 (lv_at hl 0 rfl) ?_
    refine lv_iconst (v := 1) hx hb dX12_canHold_121 (by decide) ?_
    refine lv_icmp_ge (tgt := 129) hx hb dX12_canHold_122 (by decide) (fun c6 => ?_) (fun c6 => ?_)
    · have hf := ite_t c6 hf
      refine lv_iload hx hb dX12_canHold_129 (lv_at hl 0 rfl) ?_
      cases hf
      exact s_iret hx hb hr hI.2.2 hI.1 hlocks dX12_canHold_131
    · have hf := ite_f c6 hf
      refine lv_iconst (v := 1) hx hb dX12_canHold_125 (by decide) ?_
      refine lv_goto (tgt := 131) hx hb dX12_canHold_126 (by decide) ?_
      cases hf
      exact s_iret hx hb hr hI.2.2 hI.1 hlocks dX12_canHold_131
  rw [f_X12_canHold] at hf
  refine lv_aload_n hx hb dX12_canHold_0 rfl (lv_at hl 0 rfl) ?_
  refine s_get (v := .ref (ad 7)) hx hb hu inU12 hown hK hI (mE hE eM_0) rfl 10 (by decide) u4_198 (fun _ h => h) rfl rfl dX12_canHold_1 ?_
  refine lv_iload_n hx hb dX12_canHold_4 rfl (lv_at hl 1 rfl) ?_
  obtain ⟨h1, hf⟩ := chk_i hf
  refine s_ild hx hb hK hI (mE hE eM_7) (inB_i h1) dX12_canHold_5 ?_
  refine lv_iload_n hx hb dX12_canHold_6 rfl (lv_at hl 3 rfl) ?_
  refine lv_isub hx hb dX12_canHold_7 ?_
  obtain ⟨x4_2, ex4_2, hf⟩ := bnd_i hf
  refine s_nmI ex4_2 ?_
  refine lv_istore (lv' := [(4, .int x4_2), (0, .ref (ad 0)), (1, .int x1), (2, .int x2), (3, .int x3)]) hx hb dX12_canHold_8 hl (by decide) rfl (fun ls hl => ?_)
  refine lv_aload_n hx hb dX12_canHold_10 rfl (lv_at hl 1 rfl) ?_
  refine s_get (v := .ref (ad 5)) hx hb hu inU12 hown hK hI (mE hE eM_0) rfl 8 (by decide) u4_196 (fun _ h => h) rfl rfl dX12_canHold_11 ?_
  refine lv_iload_n hx hb dX12_canHold_14 rfl (lv_at hl 2 rfl) ?_
  obtain ⟨h3, hf⟩ := chk_i hf
  refine s_ild hx hb hK hI (mE hE eM_5) (inB_i h3) dX12_canHold_15 ?_
  by_cases c4 : (G 5 x1.toNatClampNeg) = 1
  · have hf := ite_t c4 hf
    refine s_tbl (tgt := 52) 1 E dX12_canHold_16 c4 (by decide) (by decide) rfl (by decide) ?_
    refine lv_iload hx hb dX12_canHold_52 (lv_at hl 0 rfl) ?_
    refine lv_iload_n hx hb dX12_canHold_54 rfl (lv_at hl 4 rfl) ?_
    refine lv_iconst (v := 2) hx hb dX12_canHold_55 (by decide) ?_
    refine lv_idiv hx hb dX12_canHold_56 (by decide) ?_
    refine lv_iadd hx hb dX12_canHold_57 ?_
    obtain ⟨x5_5, ex5_5, hf⟩ := bnd_i hf
    refine s_nmI ex5_5 ?_
    refine lv_istore (lv' := [(5, .int x5_5), (4, .int x4_2), (0, .ref (ad 0)), (1, .int x1), (2, .int x2), (3, .int x3)]) hx hb dX12_canHold_58 hl (by decide) rfl (fun ls hl => ?_)
    refine lv_goto (tgt := 119) hx hb dX12_canHold_60 (by decide) ?_
    exact B119    x5_5 H locs ls (lv_sub hl [0] rfl) hI hf
  · have hf := ite_f c4 hf
    by_cases c7 : (G 5 x1.toNatClampNeg) = 2
    · have hf := ite_t c7 hf
      refine s_tbl (tgt := 63) 2 E dX12_canHold_16 c7 (by decide) (by decide) rfl (by decide) ?_
      refine lv_iload hx hb dX12_canHold_63 (lv_at hl 0 rfl) ?_
      refine lv_iload_n hx hb dX12_canHold_65 rfl (lv_at hl 3 rfl) ?_
      refine lv_isub hx hb dX12_canHold_66 ?_
      obtain ⟨x5_8, ex5_8, hf⟩ := bnd_i hf
      refine s_nmI ex5_8 ?_
      refine lv_istore (lv' := [(5, .int x5_8), (4, .int x4_2), (0, .ref (ad 0)), (1, .int x1), (2, .int x2), (3, .int x3)]) hx hb dX12_canHold_67 hl (by decide) rfl (fun ls hl => ?_)
      refine lv_goto (tgt := 119) hx hb dX12_canHold_69 (by decide) ?_
      exact B119    x5_8 H locs ls (lv_sub hl [0] rfl) hI hf
    · have hf := ite_f c7 hf
      by_cases c9 : (G 5 x1.toNatClampNeg) = 3
      · have hf := ite_t c9 hf
        refine s_tbl (tgt := 72) 3 E dX12_canHold_16 c9 (by decide) (by decide) rfl (by decide) ?_
        refine lv_iload hx hb dX12_canHold_72 (lv_at hl 0 rfl) ?_
        refine lv_iload_n hx hb dX12_canHold_74 rfl (lv_at hl 3 rfl) ?_
        refine lv_isub hx hb dX12_canHold_75 ?_
        refine lv_aload_n hx hb dX12_canHold_76 rfl (lv_at hl 1 rfl) ?_
        refine s_get (v := .ref (ad 8)) hx hb hu inU12 hown hK hI (mE hE eM_0) rfl 11 (by decide) u4_199 (fun _ h => h) rfl rfl dX12_canHold_77 ?_
        refine lv_iload_n hx hb dX12_canHold_80 rfl (lv_at hl 2 rfl) ?_
        obtain ⟨h10, hf⟩ := chk_i hf
        refine s_ild hx hb hK hI (mE hE eM_8) (inB_i h10) dX12_canHold_81 ?_
        refine lv_isub hx hb dX12_canHold_82 ?_
        obtain ⟨x5_11, ex5_11, hf⟩ := bnd_i hf
        refine s_nmI ex5_11 ?_
        refine lv_istore (lv' := [(5, .int x5_11), (4, .int x4_2), (0, .ref (ad 0)), (1, .int x1), (2, .int x2), (3, .int x3)]) hx hb dX12_canHold_83 hl (by decide) rfl (fun ls hl => ?_)
        refine lv_goto (tgt := 119) hx hb dX12_canHold_85 (by decide) ?_
        exact B119    x5_11 H locs ls (lv_sub hl [0] rfl) hI hf
      · have hf := ite_f c9 hf
        by_cases c12 : (G 5 x1.toNatClampNeg) = 4
        · have hf := ite_t c12 hf
          refine s_tbl (tgt := 88) 4 E dX12_canHold_16 c12 (by decide) (by decide) rfl (by decide) ?_
          refine lv_iload hx hb dX12_canHold_88 (lv_at hl 0 rfl) ?_
          refine lv_iload_n hx hb dX12_canHold_90 rfl (lv_at hl 4 rfl) ?_
          refine lv_iconst (v := 2) hx hb dX12_canHold_91 (by decide) ?_
          refine lv_idiv hx hb dX12_canHold_92 (by decide) ?_
          refine lv_iadd hx hb dX12_canHold_93 ?_
          refine lv_aload_n hx hb dX12_canHold_94 rfl (lv_at hl 1 rfl) ?_
          refine s_get (v := .ref (ad 8)) hx hb hu inU12 hown hK hI (mE hE eM_0) rfl 11 (by decide) u4_199 (fun _ h => h) rfl rfl dX12_canHold_95 ?_
          refine lv_iload_n hx hb dX12_canHold_98 rfl (lv_at hl 2 rfl) ?_
          obtain ⟨h13, hf⟩ := chk_i hf
          refine s_ild hx hb hK hI (mE hE eM_8) (inB_i h13) dX12_canHold_99 ?_
          refine lv_iadd hx hb dX12_canHold_100 ?_
          obtain ⟨x5_14, ex5_14, hf⟩ := bnd_i hf
          refine s_nmI ex5_14 ?_
          refine lv_istore (lv' := [(5, .int x5_14), (4, .int x4_2), (0, .ref (ad 0)), (1, .int x1), (2, .int x2), (3, .int x3)]) hx hb dX12_canHold_101 hl (by decide) rfl (fun ls hl => ?_)
          refine lv_goto (tgt := 119) hx hb dX12_canHold_103 (by decide) ?_
          exact B119    x5_14 H locs ls (lv_sub hl [0] rfl) hI hf
        · have hf := ite_f c12 hf
          by_cases c15 : (G 5 x1.toNatClampNeg) = 5
          · have hf := ite_t c15 hf
            refine s_tbl (tgt := 106) 5 E dX12_canHold_16 c15 (by decide) (by decide) rfl (by decide) ?_
            refine lv_iload hx hb dX12_canHold_106 (lv_at hl 0 rfl) ?_
            refine lv_iconst (v := 2) hx hb dX12_canHold_108 (by decide) ?_
            refine lv_idiv hx hb dX12_canHold_109 (by decide) ?_
            obtain ⟨x5_16, ex5_16, hf⟩ := bnd_i hf
            refine s_nmI ex5_16 ?_
            refine lv_istore (lv' := [(5, .int x5_16), (4, .int x4_2), (0, .ref (ad 0)), (1, .int x1), (2, .int x2), (3, .int x3)]) hx hb dX12_canHold_110 hl (by decide) rfl (fun ls hl => ?_)
            refine lv_goto (tgt := 119) hx hb dX12_canHold_112 (by decide) ?_
            exact B119    x5_16 H locs ls (lv_sub hl [0] rfl) hI hf
          · have hf := ite_f c15 hf
            refine lv_tableOut (tgt := 115) hx hb dX12_canHold_16 (by have q0 := lv_neT c4 (show (1 : Int32).toInt = 1 from rfl); have q1 := lv_neT c7 (show (2 : Int32).toInt = 2 from rfl); have q2 := lv_neT c9 (show (3 : Int32).toInt = 3 from rfl); have q3 := lv_neT c12 (show (4 : Int32).toInt = 4 from rfl); have q4 := lv_neT c15 (show (5 : Int32).toInt = 5 from rfl); omega) (by decide) ?_
            refine lv_iload hx hb dX12_canHold_115 (lv_at hl 0 rfl) ?_
            refine lv_istore (lv' := [(5, .int x4_2), (4, .int x4_2), (0, .ref (ad 0)), (1, .int x1), (2, .int x2), (3, .int x3)]) hx hb dX12_canHold_117 hl (by decide) rfl (fun ls hl => ?_)
            exact B119    x4_2 H locs ls (lv_sub hl [0] rfl) hI hf
noncomputable def j_X12_takes_39 (G : Mem) (x1 : Int32) (x2 : Int32)   : Option (Int32) := (if x2 < 3 then chk (inB x1 10) (some (G 9 x1.toNatClampNeg)) else chk (inB x1 10) (some ((G 9 x1.toNatClampNeg) + 1)))
noncomputable def f_X12_takes (G : Mem) (x1 : Int32) (x2 : Int32) : Option (Int32) := chk (inB x1 10) ((if (G 5 x1.toNatClampNeg) = 5 then chk (inB x1 10) (some (2 * (G 9 x1.toNatClampNeg))) else chk (inB x1 10) ((if (G 5 x1.toNatClampNeg) = 2 then j_X12_takes_39 G x1 x2 else chk (inB x1 10) ((if (G 5 x1.toNatClampNeg) = 3 then j_X12_takes_39 G x1 x2 else chk (inB x1 10) (some (G 9 x1.toNatClampNeg))))))))
theorem kyX12_takes : Ky yX12_takes cX12_takes 3 (some FieldType.int) 2 := ⟨u5_154, u1_15, by decide, by decide, by decide, by decide +kernel⟩
set_option maxHeartbeats 4000000 in
set_option maxRecDepth 100000 in
theorem c_X12_takes (l : Launch) (D : va_G) (K : List Nat) (sh : Nat → Ent) (ad : Nat → Nat) (cy : Nat → ClassId) (X : va_W) (B : State → Prop) (hcl : Bcl (AS K ad X) B) (hE : ∀ q ∈ shM, q.1 ∈ K ∧ sh q.1 = q.2) (G : Mem) (L : MemL) (O : MemO) (x1 : Int32) (x2 : Int32)  {vz : Int32} (hf : f_X12_takes G x1 x2 = some vz) : Met l yX12_takes (wsU yX12_takes cX12_takes 3 (some FieldType.int)) (rmX 1 0 0) (va_Pc [.ref (ad 0), .int x1, .int x2] (PS D K sh ad cy X B G L O)) (QI (AS K ad X) (PH D K sh ad cy X G L O) vz) 0 0 (AS K ad X) := by
  refine s_met (by decide) (Nat.le_of_ble_eq_true rfl) ?_
  intro p e s m args below meth c ls H locs E hK hBs hnm hI hl
  have hl : lv_has ls 3 [(0, .ref (ad 0)), (1, .int x1), (2, .int x2)] := hl
  have E : Cx p s m args meth c RX12 cX12_takes 3 (some FieldType.int) := E
  obtain ⟨hx, hb, hr, hml, hown, hu, hlocks⟩ := id E
  have B39 : ∀     (H : Heap) (locs : List Loc) (ls : Array Slot), lv_has ls 3 [(0, .ref (ad 0)), (1, .int x1), (2, .int x2)] → IS D K sh ad cy X (AS K ad X) s.heap H locs G L O → j_X12_takes_39 G x1 x2 = some vz → W p l e (rmX 1 0 0) s m args below meth c H locs 0 0 (MQ below (QI (AS K ad X) (PH D K sh ad cy X G L O) vz) args s 0 0 (AS K ad X)) (F0 m 39 ls []) := by
    intro   H locs ls hl hI hf
    rw [j_X12_takes_39] at hf
    refine lv_iload_n hx hb dX12_takes_39 rfl (lv_at hl 2 rfl) ?_
    refine lv_iconst (v := 3) hx hb dX12_takes_40 (by decide) ?_
    refine lv_icmp_lt (tgt := 55) hx hb dX12_takes_41 (by decide) (fun c5 => ?_) (fun c5 => ?_)
    · have hf := ite_t c5 hf
      refine lv_aload_n hx hb dX12_takes_55 rfl (lv_at hl 0 rfl) ?_
      refine s_get (v := .ref (ad 9)) hx hb hu inU12 hown hK hI (mE hE eM_0) rfl 12 (by decide) u4_200 (fun _ h => h) rfl rfl dX12_takes_56 ?_
      refine lv_iload_n hx hb dX12_takes_59 rfl (lv_at hl 1 rfl) ?_
      obtain ⟨h6, hf⟩ := chk_i hf
      refine s_ild hx hb hK hI (mE hE eM_9) (inB_i h6) dX12_takes_60 ?_
      cases hf
      exact s_iret hx hb hr hI.2.2 hI.1 hlocks dX12_takes_61
    · have hf := ite_f c5 hf
      refine lv_aload_n hx hb dX12_takes_44 rfl (lv_at hl 0 rfl) ?_
      refine s_get (v := .ref (ad 9)) hx hb hu inU12 hown hK hI (mE hE eM_0) rfl 12 (by decide) u4_200 (fun _ h => h) rfl rfl dX12_takes_45 ?_
      refine lv_iload_n hx hb dX12_takes_48 rfl (lv_at hl 1 rfl) ?_
      obtain ⟨h7, hf⟩ := chk_i hf
      refine s_ild hx hb hK hI (mE hE eM_9) (inB_i h7) dX12_takes_49 ?_
      refine lv_iconst (v := 1) hx hb dX12_takes_50 (by decide) ?_
      refine lv_iadd hx hb dX12_takes_51 ?_
      refine lv_goto (tgt := 61) hx hb dX12_takes_52 (by decide) ?_
      cases hf
      exact s_iret hx hb hr hI.2.2 hI.1 hlocks dX12_takes_61
  rw [f_X12_takes] at hf
  refine lv_aload_n hx hb dX12_takes_0 rfl (lv_at hl 0 rfl) ?_
  refine s_get (v := .ref (ad 5)) hx hb hu inU12 hown hK hI (mE hE eM_0) rfl 8 (by decide) u4_196 (fun _ h => h) rfl rfl dX12_takes_1 ?_
  refine lv_iload_n hx hb dX12_takes_4 rfl (lv_at hl 1 rfl) ?_
  obtain ⟨h1, hf⟩ := chk_i hf
  refine s_ild hx hb hK hI (mE hE eM_5) (inB_i h1) dX12_takes_5 ?_
  refine lv_iconst (v := 5) hx hb dX12_takes_6 (by decide) ?_
  refine lv_icmp_ne (tgt := 19) hx hb dX12_takes_7 (by decide) (fun c2 => ?_) (fun c2 => ?_)
  · have hf := ite_f c2 hf
    refine lv_aload_n hx hb dX12_takes_19 rfl (lv_at hl 0 rfl) ?_
    refine s_get (v := .ref (ad 5)) hx hb hu inU12 hown hK hI (mE hE eM_0) rfl 8 (by decide) u4_196 (fun _ h => h) rfl rfl dX12_takes_20 ?_
    refine lv_iload_n hx hb dX12_takes_23 rfl (lv_at hl 1 rfl) ?_
    obtain ⟨h3, hf⟩ := chk_i hf
    refine s_ild hx hb hK hI (mE hE eM_5) (inB_i h3) dX12_takes_24 ?_
    refine lv_iconst (v := 2) hx hb dX12_takes_25 (by decide) ?_
    refine lv_icmp_eq (tgt := 39) hx hb dX12_takes_26 (by decide) (fun c4 => ?_) (fun c4 => ?_)
    · have hf := ite_t c4 hf
      exact B39     H locs ls (lv_sub hl [0, 1, 2] rfl) hI hf
    · have hf := ite_f c4 hf
      refine lv_aload_n hx hb dX12_takes_29 rfl (lv_at hl 0 rfl) ?_
      refine s_get (v := .ref (ad 5)) hx hb hu inU12 hown hK hI (mE hE eM_0) rfl 8 (by decide) u4_196 (fun _ h => h) rfl rfl dX12_takes_30 ?_
      refine lv_iload_n hx hb dX12_takes_33 rfl (lv_at hl 1 rfl) ?_
      obtain ⟨h8, hf⟩ := chk_i hf
      refine s_ild hx hb hK hI (mE hE eM_5) (inB_i h8) dX12_takes_34 ?_
      refine lv_iconst (v := 3) hx hb dX12_takes_35 (by decide) ?_
      refine lv_icmp_ne (tgt := 55) hx hb dX12_takes_36 (by decide) (fun c9 => ?_) (fun c9 => ?_)
      · have hf := ite_f c9 hf
        refine lv_aload_n hx hb dX12_takes_55 rfl (lv_at hl 0 rfl) ?_
        refine s_get (v := .ref (ad 9)) hx hb hu inU12 hown hK hI (mE hE eM_0) rfl 12 (by decide) u4_200 (fun _ h => h) rfl rfl dX12_takes_56 ?_
        refine lv_iload_n hx hb dX12_takes_59 rfl (lv_at hl 1 rfl) ?_
        obtain ⟨h10, hf⟩ := chk_i hf
        refine s_ild hx hb hK hI (mE hE eM_9) (inB_i h10) dX12_takes_60 ?_
        cases hf
        exact s_iret hx hb hr hI.2.2 hI.1 hlocks dX12_takes_61
      · have hf := ite_t c9 hf
        exact B39     H locs ls (lv_sub hl [0, 1, 2] rfl) hI hf
  · have hf := ite_t c2 hf
    refine lv_iconst (v := 2) hx hb dX12_takes_10 (by decide) ?_
    refine lv_aload_n hx hb dX12_takes_11 rfl (lv_at hl 0 rfl) ?_
    refine s_get (v := .ref (ad 9)) hx hb hu inU12 hown hK hI (mE hE eM_0) rfl 12 (by decide) u4_200 (fun _ h => h) rfl rfl dX12_takes_12 ?_
    refine lv_iload_n hx hb dX12_takes_15 rfl (lv_at hl 1 rfl) ?_
    obtain ⟨h11, hf⟩ := chk_i hf
    refine s_ild hx hb hK hI (mE hE eM_9) (inB_i h11) dX12_takes_16 ?_
    refine lv_imul hx hb dX12_takes_17 ?_
    cases hf
    exact s_iret hx hb hr hI.2.2 hI.1 hlocks dX12_takes_18
noncomputable def j_X12_doesSay_49 (G : Mem) (x1 : Int32) (x2 : Int32)   : Option (Int32) := chk (inB x1 10) ((if ((G 8 x1.toNatClampNeg) - (G 8 x1.toNatClampNeg) / 2 * 2) = 0 then some 1 else some 0))
noncomputable def f_X12_doesSay (G : Mem) (x1 : Int32) (x2 : Int32) : Option (Int32) := chk (inB x1 10) ((if (G 5 x1.toNatClampNeg) = 5 then some 1 else chk (inB x1 10) ((if (G 5 x1.toNatClampNeg) = 1 then some 0 else chk (inB x1 10) ((if (G 5 x1.toNatClampNeg) = 4 then some 0 else chk (inB x1 10) ((if (G 5 x1.toNatClampNeg) = 3 then (if 5 ≤ x2 then some 0 else j_X12_doesSay_49 G x1 x2) else j_X12_doesSay_49 G x1 x2))))))))
theorem kyX12_doesSay : Ky yX12_doesSay cX12_doesSay 3 (some FieldType.boolean) 2 := ⟨u5_158, u1_15, by decide, by decide, by decide, by decide +kernel⟩
set_option maxHeartbeats 4000000 in
set_option maxRecDepth 100000 in
theorem c_X12_doesSay (l : Launch) (D : va_G) (K : List Nat) (sh : Nat → Ent) (ad : Nat → Nat) (cy : Nat → ClassId) (X : va_W) (B : State → Prop) (hcl : Bcl (AS K ad X) B) (hE : ∀ q ∈ shM, q.1 ∈ K ∧ sh q.1 = q.2) (G : Mem) (L : MemL) (O : MemO) (x1 : Int32) (x2 : Int32)  {vz : Int32} (hf : f_X12_doesSay G x1 x2 = some vz) : Met l yX12_doesSay (wsU yX12_doesSay cX12_doesSay 3 (some FieldType.boolean)) (rmX 1 0 0) (va_Pc [.ref (ad 0), .int x1, .int x2] (PS D K sh ad cy X B G L O)) (QI (AS K ad X) (PH D K sh ad cy X G L O) vz) 0 0 (AS K ad X) := by
  refine s_met (by decide) (Nat.le_of_ble_eq_true rfl) ?_
  intro p e s m args below meth c ls H locs E hK hBs hnm hI hl
  have hl : lv_has ls 3 [(0, .ref (ad 0)), (1, .int x1), (2, .int x2)] := hl
  have E : Cx p s m args meth c RX12 cX12_doesSay 3 (some FieldType.boolean) := E
  obtain ⟨hx, hb, hr, hml, hown, hu, hlocks⟩ := id E
  have B49 : ∀     (H : Heap) (locs : List Loc) (ls : Array Slot), lv_has ls 3 [(0, .ref (ad 0)), (1, .int x1)] → IS D K sh ad cy X (AS K ad X) s.heap H locs G L O → j_X12_doesSay_49 G x1 x2 = some vz → W p l e (rmX 1 0 0) s m args below meth c H locs 0 0 (MQ below (QI (AS K ad X) (PH D K sh ad cy X G L O) vz) args s 0 0 (AS K ad X)) (F0 m 49 ls []) := by
    intro   H locs ls hl hI hf
    rw [j_X12_doesSay_49] at hf
    refine lv_aload_n hx hb dX12_doesSay_49 rfl (lv_at hl 0 rfl) ?_
    refine s_get (v := .ref (ad 8)) hx hb hu inU12 hown hK hI (mE hE eM_0) rfl 11 (by decide) u4_199 (fun _ h => h) rfl rfl dX12_doesSay_50 ?_
    refine lv_iload_n hx hb dX12_doesSay_53 rfl (lv_at hl 1 rfl) ?_
    obtain ⟨h9, hf⟩ := chk_i hf
    refine s_ild hx hb hK hI (mE hE eM_8) (inB_i h9) dX12_doesSay_54 ?_
    refine lv_iconst (v := 2) hx hb dX12_doesSay_55 (by decide) ?_
    refine lv_irem hx hb dX12_doesSay_56 (by decide) ?_
    refine lv_if_ne (tgt := 64) hx hb dX12_doesSay_57 (by decide) (fun c10 => ?_) (fun c10 => ?_)
    · have hf := ite_f c10 hf
      refine lv_iconst (v := 0) hx hb dX12_doesSay_64 (by decide) ?_
      cases hf
      exact s_zret rfl hx hb hr hI.2.2 hI.1 hlocks dX12_doesSay_65
    · have hf := ite_t c10 hf
      refine lv_iconst (v := 1) hx hb dX12_doesSay_60 (by decide) ?_
      refine lv_goto (tgt := 65) hx hb dX12_doesSay_61 (by decide) ?_
      cases hf
      exact s_zret rfl hx hb hr hI.2.2 hI.1 hlocks dX12_doesSay_65
  rw [f_X12_doesSay] at hf
  refine lv_aload_n hx hb dX12_doesSay_0 rfl (lv_at hl 0 rfl) ?_
  refine s_get (v := .ref (ad 5)) hx hb hu inU12 hown hK hI (mE hE eM_0) rfl 8 (by decide) u4_196 (fun _ h => h) rfl rfl dX12_doesSay_1 ?_
  refine lv_iload_n hx hb dX12_doesSay_4 rfl (lv_at hl 1 rfl) ?_
  obtain ⟨h1, hf⟩ := chk_i hf
  refine s_ild hx hb hK hI (mE hE eM_5) (inB_i h1) dX12_doesSay_5 ?_
  refine lv_iconst (v := 5) hx hb dX12_doesSay_6 (by decide) ?_
  refine lv_icmp_ne (tgt := 12) hx hb dX12_doesSay_7 (by decide) (fun c2 => ?_) (fun c2 => ?_)
  · have hf := ite_f c2 hf
    refine lv_aload_n hx hb dX12_doesSay_12 rfl (lv_at hl 0 rfl) ?_
    refine s_get (v := .ref (ad 5)) hx hb hu inU12 hown hK hI (mE hE eM_0) rfl 8 (by decide) u4_196 (fun _ h => h) rfl rfl dX12_doesSay_13 ?_
    refine lv_iload_n hx hb dX12_doesSay_16 rfl (lv_at hl 1 rfl) ?_
    obtain ⟨h3, hf⟩ := chk_i hf
    refine s_ild hx hb hK hI (mE hE eM_5) (inB_i h3) dX12_doesSay_17 ?_
    refine lv_iconst (v := 1) hx hb dX12_doesSay_18 (by decide) ?_
    refine lv_icmp_eq (tgt := 32) hx hb dX12_doesSay_19 (by decide) (fun c4 => ?_) (fun c4 => ?_)
    · have hf := ite_t c4 hf
      refine lv_iconst (v := 0) hx hb dX12_doesSay_32 (by decide) ?_
      cases hf
      exact s_zret rfl hx hb hr hI.2.2 hI.1 hlocks dX12_doesSay_33
    · have hf := ite_f c4 hf
      refine lv_aload_n hx hb dX12_doesSay_22 rfl (lv_at hl 0 rfl) ?_
      refine s_get (v := .ref (ad 5)) hx hb hu inU12 hown hK hI (mE hE eM_0) rfl 8 (by decide) u4_196 (fun _ h => h) rfl rfl dX12_doesSay_23 ?_
      refine lv_iload_n hx hb dX12_doesSay_26 rfl (lv_at hl 1 rfl) ?_
      obtain ⟨h5, hf⟩ := chk_i hf
      refine s_ild hx hb hK hI (mE hE eM_5) (inB_i h5) dX12_doesSay_27 ?_
      refine lv_iconst (v := 4) hx hb dX12_doesSay_28 (by decide) ?_
      refine lv_icmp_ne (tgt := 34) hx hb dX12_doesSay_29 (by decide) (fun c6 => ?_) (fun c6 => ?_)
      · have hf := ite_f c6 hf
        refine lv_aload_n hx hb dX12_doesSay_34 rfl (lv_at hl 0 rfl) ?_
        refine s_get (v := .ref (ad 5)) hx hb hu inU12 hown hK hI (mE hE eM_0) rfl 8 (by decide) u4_196 (fun _ h => h) rfl rfl dX12_doesSay_35 ?_
        refine lv_iload_n hx hb dX12_doesSay_38 rfl (lv_at hl 1 rfl) ?_
        obtain ⟨h7, hf⟩ := chk_i hf
        refine s_ild hx hb hK hI (mE hE eM_5) (inB_i h7) dX12_doesSay_39 ?_
        refine lv_iconst (v := 3) hx hb dX12_doesSay_40 (by decide) ?_
        refine lv_icmp_ne (tgt := 49) hx hb dX12_doesSay_41 (by decide) (fun c8 => ?_) (fun c8 => ?_)
        · have hf := ite_f c8 hf
          exact B49     H locs ls (lv_sub hl [0, 1] rfl) hI hf
        · have hf := ite_t c8 hf
          refine lv_iload_n hx hb dX12_doesSay_44 rfl (lv_at hl 2 rfl) ?_
          refine lv_iconst (v := 5) hx hb dX12_doesSay_45 (by decide) ?_
          refine lv_icmp_ge (tgt := 64) hx hb dX12_doesSay_46 (by decide) (fun c11 => ?_) (fun c11 => ?_)
          · have hf := ite_t c11 hf
            refine lv_iconst (v := 0) hx hb dX12_doesSay_64 (by decide) ?_
            cases hf
            exact s_zret rfl hx hb hr hI.2.2 hI.1 hlocks dX12_doesSay_65
          · have hf := ite_f c11 hf
            exact B49     H locs ls (lv_sub hl [0, 1] rfl) hI hf
      · have hf := ite_t c6 hf
        refine lv_iconst (v := 0) hx hb dX12_doesSay_32 (by decide) ?_
        cases hf
        exact s_zret rfl hx hb hr hI.2.2 hI.1 hlocks dX12_doesSay_33
  · have hf := ite_t c2 hf
    refine lv_iconst (v := 1) hx hb dX12_doesSay_10 (by decide) ?_
    cases hf
    exact s_zret rfl hx hb hr hI.2.2 hI.1 hlocks dX12_doesSay_11
noncomputable def f_X12_told (G : Mem) (x1 : Int32) (x2 : Int32) (x3 : Int32) (x4 : Int32) : Option (Int32) := (if (f_X12_isSinger G x1) = 0 then some (-2) else (if (f_X12_in x2 0 48) = 0 then some (-2) else (if (f_X12_in x3 0 47) = 0 then some (-2) else (if x4 = 0 then chk (inB x1 10) (some (G 5 x1.toNatClampNeg)) else if x4 = 1 then chk (inB x1 10) (some (G 6 x1.toNatClampNeg)) else if x4 = 2 then chk (inB x3 48) (bndO (f_X12_canHold G x1 x2 (G 1 x3.toNatClampNeg)) (fun v10 => some v10)) else if x4 = 3 then bndO (f_X12_takes G x1 x2) (fun v13 => some v13) else if x4 = 4 then chk (inB x3 48) (bndO (f_X12_doesSay G x1 (G 1 x3.toNatClampNeg)) (fun v17 => (if v17 = 0 then some 0 else some 1))) else if x4 = 5 then chk (inB x1 10) (some (G 7 x1.toNatClampNeg)) else some (-2)))))
theorem kyX12_told : Ky yX12_told cX12_told 5 (some FieldType.int) 4 := ⟨u5_146, u1_15, by decide, by decide, by decide, by decide +kernel⟩
set_option maxHeartbeats 4000000 in
set_option maxRecDepth 100000 in
theorem c_X12_told (l : Launch) (D : va_G) (K : List Nat) (sh : Nat → Ent) (ad : Nat → Nat) (cy : Nat → ClassId) (X : va_W) (B : State → Prop) (hcl : Bcl (AS K ad X) B) (hE : ∀ q ∈ shM, q.1 ∈ K ∧ sh q.1 = q.2) (G : Mem) (L : MemL) (O : MemO) (x1 : Int32) (x2 : Int32) (x3 : Int32) (x4 : Int32)  {vz : Int32} (hf : f_X12_told G x1 x2 x3 x4 = some vz) : Met l yX12_told (wsU yX12_told cX12_told 5 (some FieldType.int)) (rmX 3 0 0) (va_Pc [.ref (ad 0), .int x1, .int x2, .int x3, .int x4] (PS D K sh ad cy X B G L O)) (QI (AS K ad X) (PH D K sh ad cy X G L O) vz) 0 0 (AS K ad X) := by
  refine s_met (by decide) (Nat.le_of_ble_eq_true rfl) ?_
  intro p e s m args below meth c ls H locs E hK hBs hnm hI hl
  have hl : lv_has ls 5 [(0, .ref (ad 0)), (1, .int x1), (2, .int x2), (3, .int x3), (4, .int x4)] := hl
  have E : Cx p s m args meth c RX12 cX12_told 5 (some FieldType.int) := E
  obtain ⟨hx, hb, hr, hml, hown, hu, hlocks⟩ := id E
  rw [f_X12_told] at hf
  refine lv_aload_n hx hb dX12_told_0 rfl (lv_at hl 0 rfl) ?_
  refine lv_iload_n hx hb dX12_told_1 rfl (lv_at hl 1 rfl) ?_
  refine s_afI hI (s_runV (rest := []) (As := [.int x1]) (np := 1) E hK hI (s_B hcl hBs hI) hcl.2 (mE hE eM_0) rfl (c_X12_isSinger l D K sh ad cy X B hcl hE G L O x1 rfl) kyX12_isSinger u5_139 u5_141 up_25 (by decide) rfl hl.1 rfl (Nat.le_of_ble_eq_true rfl) ⟨Nat.zero_le _, Nat.zero_le _⟩ dX12_told_2) (fun H locs hI => ?_)
  refine lv_if_eq (tgt := 28) hx hb dX12_told_5 (by decide) (fun c1 => ?_) (fun c1 => ?_)
  · have hf := ite_t c1 hf
    refine lv_bipush (v := (-2)) hx hb dX12_told_28 (by decide) ?_
    cases hf
    exact s_iret hx hb hr hI.2.2 hI.1 hlocks dX12_told_30
  · have hf := ite_f c1 hf
    refine lv_iload_n hx hb dX12_told_8 rfl (lv_at hl 2 rfl) ?_
    refine lv_iconst (v := 0) hx hb dX12_told_9 (by decide) ?_
    refine lv_bipush (v := 48) hx hb dX12_told_10 (by decide) ?_
    refine s_cSP (np := 3) (rest := []) E (c_X12_in l x2 0 48 rfl) kyX12_in u5_128 u5_129 (by decide) rfl hl.1 rfl (Nat.le_of_ble_eq_true rfl) ⟨Nat.zero_le _, Nat.zero_le _⟩ dX12_told_12 ?_
    refine lv_if_eq (tgt := 28) hx hb dX12_told_15 (by decide) (fun c2 => ?_) (fun c2 => ?_)
    · have hf := ite_t c2 hf
      refine lv_bipush (v := (-2)) hx hb dX12_told_28 (by decide) ?_
      cases hf
      exact s_iret hx hb hr hI.2.2 hI.1 hlocks dX12_told_30
    · have hf := ite_f c2 hf
      refine lv_iload_n hx hb dX12_told_18 rfl (lv_at hl 3 rfl) ?_
      refine lv_iconst (v := 0) hx hb dX12_told_19 (by decide) ?_
      refine lv_bipush (v := 47) hx hb dX12_told_20 (by decide) ?_
      refine s_cSP (np := 3) (rest := []) E (c_X12_in l x3 0 47 rfl) kyX12_in u5_128 u5_129 (by decide) rfl hl.1 rfl (Nat.le_of_ble_eq_true rfl) ⟨Nat.zero_le _, Nat.zero_le _⟩ dX12_told_22 ?_
      refine lv_if_ne (tgt := 31) hx hb dX12_told_25 (by decide) (fun c3 => ?_) (fun c3 => ?_)
      · have hf := ite_f c3 hf
        refine lv_iload hx hb dX12_told_31 (lv_at hl 4 rfl) ?_
        by_cases c4 : x4 = 0
        · have hf := ite_t c4 hf
          refine s_tbl (tgt := 72) 0 E dX12_told_33 c4 (by decide) (by decide) rfl (by decide) ?_
          refine lv_aload_n hx hb dX12_told_72 rfl (lv_at hl 0 rfl) ?_
          refine s_get (v := .ref (ad 5)) hx hb hu inU12 hown hK hI (mE hE eM_0) rfl 8 (by decide) u4_196 (fun _ h => h) rfl rfl dX12_told_73 ?_
          refine lv_iload_n hx hb dX12_told_76 rfl (lv_at hl 1 rfl) ?_
          obtain ⟨h5, hf⟩ := chk_i hf
          refine s_ild hx hb hK hI (mE hE eM_5) (inB_i h5) dX12_told_77 ?_
          cases hf
          exact s_iret hx hb hr hI.2.2 hI.1 hlocks dX12_told_78
        · have hf := ite_f c4 hf
          by_cases c6 : x4 = 1
          · have hf := ite_t c6 hf
            refine s_tbl (tgt := 79) 1 E dX12_told_33 c6 (by decide) (by decide) rfl (by decide) ?_
            refine lv_aload_n hx hb dX12_told_79 rfl (lv_at hl 0 rfl) ?_
            refine s_get (v := .ref (ad 6)) hx hb hu inU12 hown hK hI (mE hE eM_0) rfl 9 (by decide) u4_197 (fun _ h => h) rfl rfl dX12_told_80 ?_
            refine lv_iload_n hx hb dX12_told_83 rfl (lv_at hl 1 rfl) ?_
            obtain ⟨h7, hf⟩ := chk_i hf
            refine s_ild hx hb hK hI (mE hE eM_6) (inB_i h7) dX12_told_84 ?_
            cases hf
            exact s_iret hx hb hr hI.2.2 hI.1 hlocks dX12_told_85
          · have hf := ite_f c6 hf
            by_cases c8 : x4 = 2
            · have hf := ite_t c8 hf
              refine s_tbl (tgt := 86) 2 E dX12_told_33 c8 (by decide) (by decide) rfl (by decide) ?_
              refine lv_aload_n hx hb dX12_told_86 rfl (lv_at hl 0 rfl) ?_
              refine lv_iload_n hx hb dX12_told_87 rfl (lv_at hl 1 rfl) ?_
              refine lv_iload_n hx hb dX12_told_88 rfl (lv_at hl 2 rfl) ?_
              refine lv_aload_n hx hb dX12_told_89 rfl (lv_at hl 0 rfl) ?_
              refine s_get (v := .ref (ad 1)) hx hb hu inU12 hown hK hI (mE hE eM_0) rfl 3 (by decide) u4_191 (fun _ h => h) rfl rfl dX12_told_90 ?_
              refine lv_iload_n hx hb dX12_told_93 rfl (lv_at hl 3 rfl) ?_
              obtain ⟨h9, hf⟩ := chk_i hf
              refine s_ild hx hb hK hI (mE hE eM_1) (inB_i h9) dX12_told_94 ?_
              obtain ⟨v10, h11, hf⟩ := bndO_i hf
              refine s_afI hI (s_runV (rest := []) (As := [.int x1, .int x2, .int (G 1 x3.toNatClampNeg)]) (np := 3) E hK hI (s_B hcl hBs hI) hcl.2 (mE hE eM_0) rfl (c_X12_canHold l D K sh ad cy X B hcl hE G L O x1 x2 (G 1 x3.toNatClampNeg) h11) kyX12_canHold u5_147 u5_149 up_26 (by decide) rfl hl.1 rfl (Nat.le_of_ble_eq_true rfl) ⟨Nat.zero_le _, Nat.zero_le _⟩ dX12_told_95) (fun H locs hI => ?_)
              cases hf
              exact s_iret hx hb hr hI.2.2 hI.1 hlocks dX12_told_98
            · have hf := ite_f c8 hf
              by_cases c12 : x4 = 3
              · have hf := ite_t c12 hf
                refine s_tbl (tgt := 99) 3 E dX12_told_33 c12 (by decide) (by decide) rfl (by decide) ?_
                refine lv_aload_n hx hb dX12_told_99 rfl (lv_at hl 0 rfl) ?_
                refine lv_iload_n hx hb dX12_told_100 rfl (lv_at hl 1 rfl) ?_
                refine lv_iload_n hx hb dX12_told_101 rfl (lv_at hl 2 rfl) ?_
                obtain ⟨v13, h14, hf⟩ := bndO_i hf
                refine s_afI hI (s_runV (rest := []) (As := [.int x1, .int x2]) (np := 2) E hK hI (s_B hcl hBs hI) hcl.2 (mE hE eM_0) rfl (c_X12_takes l D K sh ad cy X B hcl hE G L O x1 x2 h14) kyX12_takes u5_151 u5_153 up_27 (by decide) rfl hl.1 rfl (Nat.le_of_ble_eq_true rfl) ⟨Nat.zero_le _, Nat.zero_le _⟩ dX12_told_102) (fun H locs hI => ?_)
                cases hf
                exact s_iret hx hb hr hI.2.2 hI.1 hlocks dX12_told_105
              · have hf := ite_f c12 hf
                by_cases c15 : x4 = 4
                · have hf := ite_t c15 hf
                  refine s_tbl (tgt := 106) 4 E dX12_told_33 c15 (by decide) (by decide) rfl (by decide) ?_
                  refine lv_aload_n hx hb dX12_told_106 rfl (lv_at hl 0 rfl) ?_
                  refine lv_iload_n hx hb dX12_told_107 rfl (lv_at hl 1 rfl) ?_
                  refine lv_aload_n hx hb dX12_told_108 rfl (lv_at hl 0 rfl) ?_
                  refine s_get (v := .ref (ad 1)) hx hb hu inU12 hown hK hI (mE hE eM_0) rfl 3 (by decide) u4_191 (fun _ h => h) rfl rfl dX12_told_109 ?_
                  refine lv_iload_n hx hb dX12_told_112 rfl (lv_at hl 3 rfl) ?_
                  obtain ⟨h16, hf⟩ := chk_i hf
                  refine s_ild hx hb hK hI (mE hE eM_1) (inB_i h16) dX12_told_113 ?_
                  obtain ⟨v17, h18, hf⟩ := bndO_i hf
                  refine s_afI hI (s_runV (rest := []) (As := [.int x1, .int (G 1 x3.toNatClampNeg)]) (np := 2) E hK hI (s_B hcl hBs hI) hcl.2 (mE hE eM_0) rfl (c_X12_doesSay l D K sh ad cy X B hcl hE G L O x1 (G 1 x3.toNatClampNeg) h18) kyX12_doesSay u5_155 u5_157 up_28 (by decide) rfl hl.1 rfl (Nat.le_of_ble_eq_true rfl) ⟨Nat.zero_le _, Nat.zero_le _⟩ dX12_told_114) (fun H locs hI => ?_)
                  refine lv_if_eq (tgt := 124) hx hb dX12_told_117 (by decide) (fun c19 => ?_) (fun c19 => ?_)
                  · have hf := ite_t c19 hf
                    refine lv_iconst (v := 0) hx hb dX12_told_124 (by decide) ?_
                    cases hf
                    exact s_iret hx hb hr hI.2.2 hI.1 hlocks dX12_told_125
                  · have hf := ite_f c19 hf
                    refine lv_iconst (v := 1) hx hb dX12_told_120 (by decide) ?_
                    refine lv_goto (tgt := 125) hx hb dX12_told_121 (by decide) ?_
                    cases hf
                    exact s_iret hx hb hr hI.2.2 hI.1 hlocks dX12_told_125
                · have hf := ite_f c15 hf
                  by_cases c20 : x4 = 5
                  · have hf := ite_t c20 hf
                    refine s_tbl (tgt := 126) 5 E dX12_told_33 c20 (by decide) (by decide) rfl (by decide) ?_
                    refine lv_aload_n hx hb dX12_told_126 rfl (lv_at hl 0 rfl) ?_
                    refine s_get (v := .ref (ad 7)) hx hb hu inU12 hown hK hI (mE hE eM_0) rfl 10 (by decide) u4_198 (fun _ h => h) rfl rfl dX12_told_127 ?_
                    refine lv_iload_n hx hb dX12_told_130 rfl (lv_at hl 1 rfl) ?_
                    obtain ⟨h21, hf⟩ := chk_i hf
                    refine s_ild hx hb hK hI (mE hE eM_7) (inB_i h21) dX12_told_131 ?_
                    cases hf
                    exact s_iret hx hb hr hI.2.2 hI.1 hlocks dX12_told_132
                  · have hf := ite_f c20 hf
                    refine lv_tableOut (tgt := 133) hx hb dX12_told_33 (by have q0 := lv_neT c4 (show (0 : Int32).toInt = 0 from rfl); have q1 := lv_neT c6 (show (1 : Int32).toInt = 1 from rfl); have q2 := lv_neT c8 (show (2 : Int32).toInt = 2 from rfl); have q3 := lv_neT c12 (show (3 : Int32).toInt = 3 from rfl); have q4 := lv_neT c15 (show (4 : Int32).toInt = 4 from rfl); have q5 := lv_neT c20 (show (5 : Int32).toInt = 5 from rfl); omega) (by decide) ?_
                    refine lv_bipush (v := (-2)) hx hb dX12_told_133 (by decide) ?_
                    cases hf
                    exact s_iret hx hb hr hI.2.2 hI.1 hlocks dX12_told_135
      · have hf := ite_t c3 hf
        refine lv_bipush (v := (-2)) hx hb dX12_told_28 (by decide) ?_
        cases hf
        exact s_iret hx hb hr hI.2.2 hI.1 hlocks dX12_told_30
noncomputable def q_X12_feed_31 (x1 : Int32) (w2 : Int64)  (rec : (Mem × Int32) → Option (Mem × Int32)) : (Mem × Int32) → Option (Mem × Int32) := fun (G, x4) => (if x1 ≤ x4 then some (G, (G 0 14)) else chk (inB (G 0 14) 160) (bnd (up2 G 10 (G 0 14).toNatClampNeg (vp_nar .byte (((w2 >>> ((8 * x4).toInt64 &&& 63)).toInt32).toInt8.toInt32))) (fun G5 => bnd (up2 G5 0 14 ((G5 0 14) + 1)) (fun G6 => bnd (x4 + 1) (fun x4_7 => rec (G6, x4_7))))))
noncomputable def f_X12_feed (G : Mem) (x1 : Int32) (w2 : Int64) : Option (Mem × Int32) := (if (f_X12_in x1 1 8) = 0 then some (G, (-2)) else (if ((G 0 14) + x1) ≤ 160 then iter (q_X12_feed_31 x1 w2) fuel (G, 0) else some (G, (-4))))
theorem kyX12_feed : Ky yX12_feed cX12_feed 5 (some FieldType.int) 2 := ⟨u5_162, u1_15, by decide, by decide, by decide, by decide +kernel⟩
set_option maxHeartbeats 4000000 in
set_option maxRecDepth 100000 in
theorem c_X12_feed (l : Launch) (D : va_G) (K : List Nat) (sh : Nat → Ent) (ad : Nat → Nat) (cy : Nat → ClassId) (X : va_W) (B : State → Prop) (hcl : Bcl (AS K ad X) B) (hE : ∀ q ∈ shM, q.1 ∈ K ∧ sh q.1 = q.2) (G : Mem) (L : MemL) (O : MemO) (x1 : Int32) (w2 : Int64) {Gz : Mem} {vz : Int32} (hf : f_X12_feed G x1 w2 = some (Gz, vz)) : Met l yX12_feed (wsU yX12_feed cX12_feed 5 (some FieldType.int)) (rmX 2 0 0) (va_Pc [.ref (ad 0), .int x1, .long w2] (PS D K sh ad cy X B G L O)) (QI (AS K ad X) (PH D K sh ad cy X Gz L O) vz) 0 0 (AS K ad X) := by
  refine s_met (by decide) (Nat.le_of_ble_eq_true rfl) ?_
  intro p e s m args below meth c ls H locs E hK hBs hnm hI hl
  have hl : lv_has ls 5 [(0, .ref (ad 0)), (1, .int x1), (2, .long w2)] := hl
  have E : Cx p s m args meth c RX12 cX12_feed 5 (some FieldType.int) := E
  obtain ⟨hx, hb, hr, hml, hown, hu, hlocks⟩ := id E
  have B31 : ∀   (n : Nat) (G : Mem) (x4 : Int32) (H : Heap) (locs : List Loc) (ls : Array Slot), lv_has ls 5 [(0, .ref (ad 0)), (1, .int x1), (2, .long w2), (4, .int x4)] → IS D K sh ad cy X (AS K ad X) s.heap H locs G L O → iter (q_X12_feed_31 x1 w2) n (G, x4) = some (Gz, vz) → W p l e (rmX 2 0 0) s m args below meth c H locs 0 0 (MQ below (QI (AS K ad X) (PH D K sh ad cy X Gz L O) vz) args s 0 0 (AS K ad X)) (F0 m 31 ls []) := by
    intro n
    induction n with
    | zero => intro G x4 H locs ls hl hI hf; exact iter_0 hf
    | succ n ih =>
      intro G x4 H locs ls hl hI hf
      have hf : q_X12_feed_31 x1 w2 (iter (q_X12_feed_31 x1 w2) n) (G, x4) = some (Gz, vz) := hf
      rw [q_X12_feed_31] at hf
      refine lv_iload hx hb dX12_feed_31 (lv_at hl 3 rfl) ?_
      refine lv_iload_n hx hb dX12_feed_33 rfl (lv_at hl 1 rfl) ?_
      refine lv_icmp_ge (tgt := 71) hx hb dX12_feed_34 (by decide) (fun c3 => ?_) (fun c3 => ?_)
      · have hf := ite_t c3 hf
        refine lv_aload_n hx hb dX12_feed_71 rfl (lv_at hl 0 rfl) ?_
        refine s_get (v := .int (G 0 14)) hx hb hu inU12 hown hK hI (mE hE eM_0) rfl 14 (by decide) u4_202 (fun _ h => h) rfl rfl dX12_feed_72 ?_
        cases hf
        exact s_iret hx hb hr hI.2.2 hI.1 hlocks dX12_feed_75
      · have hf := ite_f c3 hf
        refine lv_aload_n hx hb dX12_feed_37 rfl (lv_at hl 0 rfl) ?_
        refine s_get (v := .ref (ad 10)) hx hb hu inU12 hown hK hI (mE hE eM_0) rfl 13 (by decide) u4_201 (fun _ h => h) rfl rfl dX12_feed_38 ?_
        refine lv_aload_n hx hb dX12_feed_41 rfl (lv_at hl 0 rfl) ?_
        refine s_get (v := .int (G 0 14)) hx hb hu inU12 hown hK hI (mE hE eM_0) rfl 14 (by decide) u4_202 (fun _ h => h) rfl rfl dX12_feed_42 ?_
        refine lv_lload_n hx hb dX12_feed_45 rfl (lv_at hl 2 rfl) ?_
        refine lv_bipush (v := 8) hx hb dX12_feed_46 (by decide) ?_
        refine lv_iload hx hb dX12_feed_48 (lv_at hl 3 rfl) ?_
        refine lv_imul hx hb dX12_feed_50 ?_
        refine lv_lshr (v := (w2 >>> ((8 * x4).toInt64 &&& 63))) hx hb dX12_feed_51 rfl ?_
        refine lv_l2i (v := ((w2 >>> ((8 * x4).toInt64 &&& 63)).toInt32)) hx hb dX12_feed_52 rfl ?_
        refine lv_i2b (v := (((w2 >>> ((8 * x4).toInt64 &&& 63)).toInt32).toInt8.toInt32)) hx hb dX12_feed_53 rfl ?_
        obtain ⟨h4, hf⟩ := chk_i hf
        obtain ⟨G5, eG5, hf⟩ := bnd_i hf
        refine s_bst hx hb hK hI (mE hE eM_10) (inB_i h4) eG5 dX12_feed_54 (fun H locs hI => ?_)
        refine lv_aload_n hx hb dX12_feed_55 rfl (lv_at hl 0 rfl) ?_
        refine lv_dup hx hb dX12_feed_56 rfl ?_
        refine s_get (v := .int (G5 0 14)) hx hb hu inU12 hown hK hI (mE hE eM_0) rfl 14 (by decide) u4_202 (fun _ h => h) rfl rfl dX12_feed_57 ?_
        refine lv_iconst (v := 1) hx hb dX12_feed_60 (by decide) ?_
        refine lv_iadd hx hb dX12_feed_61 ?_
        obtain ⟨G6, eG6, hf⟩ := bnd_i hf
        refine s_put (ty := .int) hx hb hu inU12 tyX12_ok nmX12 hown hK hI (mE hE eM_0) rfl 14 (by decide) u4_202 (fun _ h => h) rfl rfl (tyX12_ok 14 (by decide)) rfl rfl eG6 dX12_feed_62 (fun H locs hI => ?_)
        obtain ⟨x4_7, ex4_7, hf⟩ := bnd_i hf
        refine lv_iinc (v := x4_7) (lv' := [(4, .int x4_7), (0, .ref (ad 0)), (1, .int x1), (2, .long w2)]) hx hb dX12_feed_65 hl (k := 3) rfl (by rw [ex4_7]; rfl) (by decide) rfl (fun ls hl => ?_)
        refine lv_goto (tgt := 31) hx hb dX12_feed_68 (by decide) ?_
        exact ih G6 x4_7 H locs ls (lv_sub hl [1, 2, 3, 0] rfl) hI hf
  rw [f_X12_feed] at hf
  refine lv_iload_n hx hb dX12_feed_0 rfl (lv_at hl 1 rfl) ?_
  refine lv_iconst (v := 1) hx hb dX12_feed_1 (by decide) ?_
  refine lv_bipush (v := 8) hx hb dX12_feed_2 (by decide) ?_
  refine s_cSP (np := 3) (rest := []) E (c_X12_in l x1 1 8 rfl) kyX12_in u5_128 u5_129 (by decide) rfl hl.1 rfl (Nat.le_of_ble_eq_true rfl) ⟨Nat.zero_le _, Nat.zero_le _⟩ dX12_feed_4 ?_
  refine lv_if_ne (tgt := 13) hx hb dX12_feed_7 (by decide) (fun c1 => ?_) (fun c1 => ?_)
  · have hf := ite_f c1 hf
    refine lv_aload_n hx hb dX12_feed_13 rfl (lv_at hl 0 rfl) ?_
    refine s_get (v := .int (G 0 14)) hx hb hu inU12 hown hK hI (mE hE eM_0) rfl 14 (by decide) u4_202 (fun _ h => h) rfl rfl dX12_feed_14 ?_
    refine lv_iload_n hx hb dX12_feed_17 rfl (lv_at hl 1 rfl) ?_
    refine lv_iadd hx hb dX12_feed_18 ?_
    refine lv_sipush (v := 160) hx hb dX12_feed_19 (by decide) ?_
    refine lv_icmp_le (tgt := 28) hx hb dX12_feed_22 (by decide) (fun c2 => ?_) (fun c2 => ?_)
    · have hf := ite_t c2 hf
      refine lv_iconst (v := 0) hx hb dX12_feed_28 (by decide) ?_
      refine lv_istore (lv' := [(4, .int 0), (0, .ref (ad 0)), (1, .int x1), (2, .long w2)]) hx hb dX12_feed_29 hl (by decide) rfl (fun ls hl => ?_)
      exact B31   fuel G 0 H locs ls (lv_sub hl [1, 2, 3, 0] rfl) hI hf
    · have hf := ite_f c2 hf
      refine lv_bipush (v := (-4)) hx hb dX12_feed_25 (by decide) ?_
      cases hf
      exact s_iret hx hb hr hI.2.2 hI.1 hlocks dX12_feed_27
  · have hf := ite_t c1 hf
    refine lv_bipush (v := (-2)) hx hb dX12_feed_10 (by decide) ?_
    cases hf
    exact s_iret hx hb hr hI.2.2 hI.1 hlocks dX12_feed_12
noncomputable def f_X12_isLetter  (x0 : Int32) : Int32 := (f_X12_in x0 97 122)
theorem b_X12_isLetter (x0 : Int32) : isB (f_X12_isLetter x0) = true := by
  unfold f_X12_isLetter
  first | (repeat' split) <;> rfl | (repeat' split) <;> first | rfl | exact (b_X12_in x0 97 122)
theorem kyX12_isLetter : Ky yX12_isLetter cX12_isLetter 1 (some FieldType.boolean) 1 := ⟨u5_173, u1_15, by decide, by decide, by decide, by decide +kernel⟩
set_option maxHeartbeats 4000000 in
set_option maxRecDepth 100000 in
theorem c_X12_isLetter (l : Launch) (x0 : Int32)  {vz : Int32} (hf : f_X12_isLetter x0 = vz) : Met l yX12_isLetter (wsU yX12_isLetter cX12_isLetter 1 (some FieldType.boolean)) (rmX 2 0 0) (va_Pc [.int x0] (fun _ => True)) (QP vz) 0 0 noA := by
  refine s_met0 (by decide) (Nat.le_of_ble_eq_true rfl) ?_
  intro p e s m args below meth c ls E hl
  have hl : lv_has ls 1 [(0, .int x0)] := hl
  have E : Cx p s m args meth c RX12 cX12_isLetter 1 (some FieldType.boolean) := E
  obtain ⟨hx, hb, hr, hml, hown, hu, hlocks⟩ := id E
  rw [f_X12_isLetter] at hf
  refine lv_iload_n hx hb dX12_isLetter_0 rfl (lv_at hl 0 rfl) ?_
  refine lv_bipush (v := 97) hx hb dX12_isLetter_1 (by decide) ?_
  refine lv_bipush (v := 122) hx hb dX12_isLetter_3 (by decide) ?_
  refine s_cSP (np := 3) (rest := []) E (c_X12_in l x0 97 122 rfl) kyX12_in u5_128 u5_129 (by decide) rfl hl.1 rfl (Nat.le_of_ble_eq_true rfl) ⟨Nat.zero_le _, Nat.zero_le _⟩ dX12_isLetter_5 ?_
  subst hf
  exact s_iretP (isB_i (b_X12_in x0 97 122)) E dX12_isLetter_8
noncomputable def f_X12_isDigit  (x0 : Int32) : Int32 := (f_X12_in x0 48 57)
theorem b_X12_isDigit (x0 : Int32) : isB (f_X12_isDigit x0) = true := by
  unfold f_X12_isDigit
  first | (repeat' split) <;> rfl | (repeat' split) <;> first | rfl | exact (b_X12_in x0 48 57)
theorem kyX12_isDigit : Ky yX12_isDigit cX12_isDigit 1 (some FieldType.boolean) 1 := ⟨u5_180, u1_15, by decide, by decide, by decide, by decide +kernel⟩
set_option maxHeartbeats 4000000 in
set_option maxRecDepth 100000 in
theorem c_X12_isDigit (l : Launch) (x0 : Int32)  {vz : Int32} (hf : f_X12_isDigit x0 = vz) : Met l yX12_isDigit (wsU yX12_isDigit cX12_isDigit 1 (some FieldType.boolean)) (rmX 2 0 0) (va_Pc [.int x0] (fun _ => True)) (QP vz) 0 0 noA := by
  refine s_met0 (by decide) (Nat.le_of_ble_eq_true rfl) ?_
  intro p e s m args below meth c ls E hl
  have hl : lv_has ls 1 [(0, .int x0)] := hl
  have E : Cx p s m args meth c RX12 cX12_isDigit 1 (some FieldType.boolean) := E
  obtain ⟨hx, hb, hr, hml, hown, hu, hlocks⟩ := id E
  rw [f_X12_isDigit] at hf
  refine lv_iload_n hx hb dX12_isDigit_0 rfl (lv_at hl 0 rfl) ?_
  refine lv_bipush (v := 48) hx hb dX12_isDigit_1 (by decide) ?_
  refine lv_bipush (v := 57) hx hb dX12_isDigit_3 (by decide) ?_
  refine s_cSP (np := 3) (rest := []) E (c_X12_in l x0 48 57 rfl) kyX12_in u5_128 u5_129 (by decide) rfl hl.1 rfl (Nat.le_of_ble_eq_true rfl) ⟨Nat.zero_le _, Nat.zero_le _⟩ dX12_isDigit_5 ?_
  subst hf
  exact s_iretP (isB_i (b_X12_in x0 48 57)) E dX12_isDigit_8
noncomputable def q_X12_wordNow_18 (G : Mem) (k4 : (Int32 × Int32) → Option (Int32)) (rec : (Int32 × Int32 × Int32 × Int32) → Option (Int32)) : (Int32 × Int32 × Int32 × Int32) → Option (Int32) := fun (x1, x2, x3, x4) => chk (inB x1 61) ((if (G 16 x1.toNatClampNeg) = 32 then bnd (x1 + 1) (fun x1_5 => (if x4 = 0 then bnd (x2 + 1) (fun x2_7 => k4 (x1_5, x2_7)) else (if x3 = (G 0 24) then chk (inB x2 12) (some (G 17 x2.toNatClampNeg)) else bnd (x2 + 1) (fun x2_9 => k4 (x1_5, x2_9))))) else (if (G 0 24) ≤ x3 then bnd (x3 + 1) (fun x3_12 => bnd (x1 + 1) (fun x1_13 => rec (x1_13, x2, x3_12, 0))) else chk (inB x3 160) (chk (inB x1 61) ((if (G 10 x3.toNatClampNeg) = (G 16 x1.toNatClampNeg) then bnd (x3 + 1) (fun x3_17 => bnd (x1 + 1) (fun x1_18 => rec (x1_18, x2, x3_17, x4))) else bnd (x3 + 1) (fun x3_19 => bnd (x1 + 1) (fun x1_20 => rec (x1_20, x2, x3_19, 0)))))))))
noncomputable def q_X12_wordNow_4 (G : Mem)  (rec : (Int32 × Int32) → Option (Int32)) : (Int32 × Int32) → Option (Int32) := fun (x1, x2) => (if 12 ≤ x2 then some (-1) else bnd (G 0 23) (fun x3_2 => iter (q_X12_wordNow_18 G rec) fuel (x1, x2, x3_2, 1)))
noncomputable def f_X12_wordNow (G : Mem)  : Option (Int32) := iter (q_X12_wordNow_4 G) fuel (0, 0)
theorem kyX12_wordNow : Ky yX12_wordNow cX12_wordNow 5 (some FieldType.int) 0 := ⟨u5_177, u1_15, by decide, by decide, by decide, by decide +kernel⟩
set_option maxHeartbeats 4000000 in
set_option maxRecDepth 100000 in
theorem c_X12_wordNow (l : Launch) (D : va_G) (K : List Nat) (sh : Nat → Ent) (ad : Nat → Nat) (cy : Nat → ClassId) (X : va_W) (B : State → Prop) (hcl : Bcl (AS K ad X) B) (hE : ∀ q ∈ shM, q.1 ∈ K ∧ sh q.1 = q.2) (G : Mem) (L : MemL) (O : MemO)   {vz : Int32} (hf : f_X12_wordNow G = some vz) : Met l yX12_wordNow (wsU yX12_wordNow cX12_wordNow 5 (some FieldType.int)) (rmX 1 0 0) (va_Pc [.ref (ad 0)] (PS D K sh ad cy X B G L O)) (QI (AS K ad X) (PH D K sh ad cy X G L O) vz) 0 0 (AS K ad X) := by
  refine s_met (by decide) (Nat.le_of_ble_eq_true rfl) ?_
  intro p e s m args below meth c ls H locs E hK hBs hnm hI hl
  have hl : lv_has ls 5 [(0, .ref (ad 0))] := hl
  have E : Cx p s m args meth c RX12 cX12_wordNow 5 (some FieldType.int) := E
  obtain ⟨hx, hb, hr, hml, hown, hu, hlocks⟩ := id E
  have B18 : ∀ (k4 : (Int32 × Int32) → Option (Int32)) (hk4 : ∀ (x1 : Int32) (x2 : Int32) (H : Heap) (locs : List Loc) (ls : Array Slot), lv_has ls 5 [(0, .ref (ad 0)), (1, .int x1), (2, .int x2)] → IS D K sh ad cy X (AS K ad X) s.heap H locs G L O → k4 (x1, x2) = some vz → W p l e (rmX 1 0 0) s m args below meth c H locs 0 0 (MQ below (QI (AS K ad X) (PH D K sh ad cy X G L O) vz) args s 0 0 (AS K ad X)) (F0 m 4 ls [])) (n : Nat) (x1 : Int32) (x2 : Int32) (x3 : Int32) (x4 : Int32) (H : Heap) (locs : List Loc) (ls : Array Slot), lv_has ls 5 [(0, .ref (ad 0)), (1, .int x1), (2, .int x2), (3, .int x3), (4, .int x4)] → IS D K sh ad cy X (AS K ad X) s.heap H locs G L O → iter (q_X12_wordNow_18 G k4) n (x1, x2, x3, x4) = some vz → W p l e (rmX 1 0 0) s m args below meth c H locs 0 0 (MQ below (QI (AS K ad X) (PH D K sh ad cy X G L O) vz) args s 0 0 (AS K ad X)) (F0 m 18 ls []) := by
    intro k4 hk4 n
    induction n with
    | zero => intro x1 x2 x3 x4 H locs ls hl hI hf; exact iter_0 hf
    | succ n ih =>
      intro x1 x2 x3 x4 H locs ls hl hI hf
      have hf : q_X12_wordNow_18 G k4 (iter (q_X12_wordNow_18 G k4) n) (x1, x2, x3, x4) = some vz := hf
      rw [q_X12_wordNow_18] at hf
      refine lv_aload_n hx hb dX12_wordNow_18 rfl (lv_at hl 0 rfl) ?_
      refine s_get (v := .ref (ad 16)) hx hb hu inU12 hown hK hI (mE hE eM_0) rfl 29 (by decide) u4_217 (fun _ h => h) rfl rfl dX12_wordNow_19 ?_
      refine lv_iload_n hx hb dX12_wordNow_22 rfl (lv_at hl 1 rfl) ?_
      obtain ⟨h3, hf⟩ := chk_i hf
      refine s_ild hx hb hK hI (mE hE eM_16) (inB_i h3) dX12_wordNow_23 ?_
      refine lv_bipush (v := 32) hx hb dX12_wordNow_24 (by decide) ?_
      refine lv_icmp_eq (tgt := 64) hx hb dX12_wordNow_26 (by decide) (fun c4 => ?_) (fun c4 => ?_)
      · have hf := ite_t c4 hf
        obtain ⟨x1_5, ex1_5, hf⟩ := bnd_i hf
        refine lv_iinc (v := x1_5) (lv' := [(1, .int x1_5), (0, .ref (ad 0)), (2, .int x2), (3, .int x3), (4, .int x4)]) hx hb dX12_wordNow_64 hl (k := 1) rfl (by rw [ex1_5]; rfl) (by decide) rfl (fun ls hl => ?_)
        refine lv_iload hx hb dX12_wordNow_67 (lv_at hl 4 rfl) ?_
        refine lv_if_eq (tgt := 87) hx hb dX12_wordNow_69 (by decide) (fun c6 => ?_) (fun c6 => ?_)
        · have hf := ite_t c6 hf
          obtain ⟨x2_7, ex2_7, hf⟩ := bnd_i hf
          refine lv_iinc (v := x2_7) (lv' := [(2, .int x2_7), (1, .int x1_5), (0, .ref (ad 0)), (3, .int x3), (4, .int x4)]) hx hb dX12_wordNow_87 hl (k := 2) rfl (by rw [ex2_7]; rfl) (by decide) rfl (fun ls hl => ?_)
          refine lv_goto (tgt := 4) hx hb dX12_wordNow_90 (by decide) ?_
          exact hk4 x1_5 x2_7 H locs ls (lv_sub hl [2, 1, 0] rfl) hI hf
        · have hf := ite_f c6 hf
          refine lv_iload_n hx hb dX12_wordNow_72 rfl (lv_at hl 3 rfl) ?_
          refine lv_aload_n hx hb dX12_wordNow_73 rfl (lv_at hl 1 rfl) ?_
          refine s_get (v := .int (G 0 24)) hx hb hu inU12 hown hK hI (mE hE eM_0) rfl 24 (by decide) u4_212 (fun _ h => h) rfl rfl dX12_wordNow_74 ?_
          refine lv_icmp_ne (tgt := 87) hx hb dX12_wordNow_77 (by decide) (fun c8 => ?_) (fun c8 => ?_)
          · have hf := ite_f c8 hf
            obtain ⟨x2_9, ex2_9, hf⟩ := bnd_i hf
            refine lv_iinc (v := x2_9) (lv' := [(2, .int x2_9), (1, .int x1_5), (0, .ref (ad 0)), (3, .int x3), (4, .int x4)]) hx hb dX12_wordNow_87 hl (k := 2) rfl (by rw [ex2_9]; rfl) (by decide) rfl (fun ls hl => ?_)
            refine lv_goto (tgt := 4) hx hb dX12_wordNow_90 (by decide) ?_
            exact hk4 x1_5 x2_9 H locs ls (lv_sub hl [2, 1, 0] rfl) hI hf
          · have hf := ite_t c8 hf
            refine lv_aload_n hx hb dX12_wordNow_80 rfl (lv_at hl 1 rfl) ?_
            refine s_get (v := .ref (ad 17)) hx hb hu inU12 hown hK hI (mE hE eM_0) rfl 30 (by decide) u4_218 (fun _ h => h) rfl rfl dX12_wordNow_81 ?_
            refine lv_iload_n hx hb dX12_wordNow_84 rfl (lv_at hl 2 rfl) ?_
            obtain ⟨h10, hf⟩ := chk_i hf
            refine s_ild hx hb hK hI (mE hE eM_17) (inB_i h10) dX12_wordNow_85 ?_
            cases hf
            exact s_iret hx hb hr hI.2.2 hI.1 hlocks dX12_wordNow_86
      · have hf := ite_f c4 hf
        refine lv_iload_n hx hb dX12_wordNow_29 rfl (lv_at hl 3 rfl) ?_
        refine lv_aload_n hx hb dX12_wordNow_30 rfl (lv_at hl 0 rfl) ?_
        refine s_get (v := .int (G 0 24)) hx hb hu inU12 hown hK hI (mE hE eM_0) rfl 24 (by decide) u4_212 (fun _ h => h) rfl rfl dX12_wordNow_31 ?_
        refine lv_icmp_ge (tgt := 52) hx hb dX12_wordNow_34 (by decide) (fun c11 => ?_) (fun c11 => ?_)
        · have hf := ite_t c11 hf
          refine lv_iconst (v := 0) hx hb dX12_wordNow_52 (by decide) ?_
          refine lv_istore (lv' := [(4, .int 0), (0, .ref (ad 0)), (1, .int x1), (2, .int x2), (3, .int x3)]) hx hb dX12_wordNow_53 hl (by decide) rfl (fun ls hl => ?_)
          obtain ⟨x3_12, ex3_12, hf⟩ := bnd_i hf
          refine lv_iinc (v := x3_12) (lv' := [(3, .int x3_12), (4, .int 0), (0, .ref (ad 0)), (1, .int x1), (2, .int x2)]) hx hb dX12_wordNow_55 hl (k := 4) rfl (by rw [ex3_12]; rfl) (by decide) rfl (fun ls hl => ?_)
          obtain ⟨x1_13, ex1_13, hf⟩ := bnd_i hf
          refine lv_iinc (v := x1_13) (lv' := [(1, .int x1_13), (3, .int x3_12), (4, .int 0), (0, .ref (ad 0)), (2, .int x2)]) hx hb dX12_wordNow_58 hl (k := 3) rfl (by rw [ex1_13]; rfl) (by decide) rfl (fun ls hl => ?_)
          refine lv_goto (tgt := 18) hx hb dX12_wordNow_61 (by decide) ?_
          exact ih x1_13 x2 x3_12 0 H locs ls (lv_sub hl [3, 0, 4, 1, 2] rfl) hI hf
        · have hf := ite_f c11 hf
          refine lv_aload_n hx hb dX12_wordNow_37 rfl (lv_at hl 0 rfl) ?_
          refine s_get (v := .ref (ad 10)) hx hb hu inU12 hown hK hI (mE hE eM_0) rfl 13 (by decide) u4_201 (fun _ h => h) rfl rfl dX12_wordNow_38 ?_
          refine lv_iload_n hx hb dX12_wordNow_41 rfl (lv_at hl 3 rfl) ?_
          obtain ⟨h14, hf⟩ := chk_i hf
          refine s_bld hx hb hK hI (mE hE eM_10) (inB_i h14) dX12_wordNow_42 ?_
          refine lv_aload_n hx hb dX12_wordNow_43 rfl (lv_at hl 0 rfl) ?_
          refine s_get (v := .ref (ad 16)) hx hb hu inU12 hown hK hI (mE hE eM_0) rfl 29 (by decide) u4_217 (fun _ h => h) rfl rfl dX12_wordNow_44 ?_
          refine lv_iload_n hx hb dX12_wordNow_47 rfl (lv_at hl 1 rfl) ?_
          obtain ⟨h15, hf⟩ := chk_i hf
          refine s_ild hx hb hK hI (mE hE eM_16) (inB_i h15) dX12_wordNow_48 ?_
          refine lv_icmp_eq (tgt := 55) hx hb dX12_wordNow_49 (by decide) (fun c16 => ?_) (fun c16 => ?_)
          · have hf := ite_t c16 hf
            obtain ⟨x3_17, ex3_17, hf⟩ := bnd_i hf
            refine lv_iinc (v := x3_17) (lv' := [(3, .int x3_17), (0, .ref (ad 0)), (1, .int x1), (2, .int x2), (4, .int x4)]) hx hb dX12_wordNow_55 hl (k := 3) rfl (by rw [ex3_17]; rfl) (by decide) rfl (fun ls hl => ?_)
            obtain ⟨x1_18, ex1_18, hf⟩ := bnd_i hf
            refine lv_iinc (v := x1_18) (lv' := [(1, .int x1_18), (3, .int x3_17), (0, .ref (ad 0)), (2, .int x2), (4, .int x4)]) hx hb dX12_wordNow_58 hl (k := 2) rfl (by rw [ex1_18]; rfl) (by decide) rfl (fun ls hl => ?_)
            refine lv_goto (tgt := 18) hx hb dX12_wordNow_61 (by decide) ?_
            exact ih x1_18 x2 x3_17 x4 H locs ls (lv_sub hl [2, 0, 3, 1, 4] rfl) hI hf
          · have hf := ite_f c16 hf
            refine lv_iconst (v := 0) hx hb dX12_wordNow_52 (by decide) ?_
            refine lv_istore (lv' := [(4, .int 0), (0, .ref (ad 0)), (1, .int x1), (2, .int x2), (3, .int x3)]) hx hb dX12_wordNow_53 hl (by decide) rfl (fun ls hl => ?_)
            obtain ⟨x3_19, ex3_19, hf⟩ := bnd_i hf
            refine lv_iinc (v := x3_19) (lv' := [(3, .int x3_19), (4, .int 0), (0, .ref (ad 0)), (1, .int x1), (2, .int x2)]) hx hb dX12_wordNow_55 hl (k := 4) rfl (by rw [ex3_19]; rfl) (by decide) rfl (fun ls hl => ?_)
            obtain ⟨x1_20, ex1_20, hf⟩ := bnd_i hf
            refine lv_iinc (v := x1_20) (lv' := [(1, .int x1_20), (3, .int x3_19), (4, .int 0), (0, .ref (ad 0)), (2, .int x2)]) hx hb dX12_wordNow_58 hl (k := 3) rfl (by rw [ex1_20]; rfl) (by decide) rfl (fun ls hl => ?_)
            refine lv_goto (tgt := 18) hx hb dX12_wordNow_61 (by decide) ?_
            exact ih x1_20 x2 x3_19 0 H locs ls (lv_sub hl [3, 0, 4, 1, 2] rfl) hI hf
  have B4 : ∀   (n : Nat) (x1 : Int32) (x2 : Int32) (H : Heap) (locs : List Loc) (ls : Array Slot), lv_has ls 5 [(0, .ref (ad 0)), (1, .int x1), (2, .int x2)] → IS D K sh ad cy X (AS K ad X) s.heap H locs G L O → iter (q_X12_wordNow_4 G) n (x1, x2) = some vz → W p l e (rmX 1 0 0) s m args below meth c H locs 0 0 (MQ below (QI (AS K ad X) (PH D K sh ad cy X G L O) vz) args s 0 0 (AS K ad X)) (F0 m 4 ls []) := by
    intro n
    induction n with
    | zero => intro x1 x2 H locs ls hl hI hf; exact iter_0 hf
    | succ n ih =>
      intro x1 x2 H locs ls hl hI hf
      have hf : q_X12_wordNow_4 G (iter (q_X12_wordNow_4 G) n) (x1, x2) = some vz := hf
      rw [q_X12_wordNow_4] at hf
      refine lv_iload_n hx hb dX12_wordNow_4 rfl (lv_at hl 2 rfl) ?_
      refine lv_bipush (v := 12) hx hb dX12_wordNow_5 (by decide) ?_
      refine lv_icmp_ge (tgt := 93) hx hb dX12_wordNow_7 (by decide) (fun c1 => ?_) (fun c1 => ?_)
      · have hf := ite_t c1 hf
        refine lv_iconst (v := (-1)) hx hb dX12_wordNow_93 (by decide) ?_
        cases hf
        exact s_iret hx hb hr hI.2.2 hI.1 hlocks dX12_wordNow_94
      · have hf := ite_f c1 hf
        refine lv_aload_n hx hb dX12_wordNow_10 rfl (lv_at hl 0 rfl) ?_
        refine s_get (v := .int (G 0 23)) hx hb hu inU12 hown hK hI (mE hE eM_0) rfl 23 (by decide) u4_211 (fun _ h => h) rfl rfl dX12_wordNow_11 ?_
        obtain ⟨x3_2, ex3_2, hf⟩ := bnd_i hf
        refine s_nmI ex3_2 ?_
        refine lv_istore_n (lv' := [(3, .int x3_2), (0, .ref (ad 0)), (1, .int x1), (2, .int x2)]) hx hb dX12_wordNow_14 rfl hl (by decide) rfl (fun ls hl => ?_)
        refine lv_iconst (v := 1) hx hb dX12_wordNow_15 (by decide) ?_
        refine lv_istore (lv' := [(4, .int 1), (3, .int x3_2), (0, .ref (ad 0)), (1, .int x1), (2, .int x2)]) hx hb dX12_wordNow_16 hl (by decide) rfl (fun ls hl => ?_)
        exact B18 _ ih fuel x1 x2 x3_2 1 H locs ls (lv_sub hl [2, 3, 4, 1, 0] rfl) hI hf
  rw [f_X12_wordNow] at hf
  refine lv_iconst (v := 0) hx hb dX12_wordNow_0 (by decide) ?_
  refine lv_istore_n (lv' := [(1, .int 0), (0, .ref (ad 0))]) hx hb dX12_wordNow_1 rfl hl (by decide) rfl (fun ls hl => ?_)
  refine lv_iconst (v := 0) hx hb dX12_wordNow_2 (by decide) ?_
  refine lv_istore_n (lv' := [(2, .int 0), (1, .int 0), (0, .ref (ad 0))]) hx hb dX12_wordNow_3 rfl hl (by decide) rfl (fun ls hl => ?_)
  exact B4   fuel 0 0 H locs ls (lv_sub hl [2, 1, 0] rfl) hI hf
noncomputable def j_X12_next_264   (G : Mem) : Option (Mem) := (if ((G 0 24) - (G 0 23)) ≤ 4 then bnd (up2 G 0 25 2) (fun G31 => some G31) else bnd (up2 G 0 25 5) (fun G32 => some G32))
noncomputable def q_X12_next_188   (rec : Mem → Option (Mem)) : Mem → Option (Mem) := fun G => (if (G 0 14) ≤ (G 0 24) then j_X12_next_264 G else chk (inB (G 0 24) 160) ((if (f_X12_isDigit (G 10 (G 0 24).toNatClampNeg)) = 0 then j_X12_next_264 G else (if 4 ≤ ((G 0 24) - (G 0 23)) then bnd (up2 G 0 24 ((G 0 24) + 1)) (fun G36 => rec G36) else chk (inB (G 0 24) 160) (bnd (up2 G 0 26 (((10 * (G 0 26)) + (G 10 (G 0 24).toNatClampNeg)) - 48)) (fun G38 => bnd (up2 G38 0 24 ((G38 0 24) + 1)) (fun G39 => rec G39)))))))
noncomputable def j_X12_next_149   (G : Mem) : Option (Mem) := bndO (f_X12_wordNow G) (fun v41 => bnd (up2 G 0 26 v41) (fun G43 => (if 0 ≤ (G43 0 26) then bnd (up2 G43 0 25 1) (fun G45 => some G45) else bnd (up2 G43 0 25 5) (fun G46 => some G46))))
noncomputable def q_X12_next_110   (rec : Mem → Option (Mem)) : Mem → Option (Mem) := fun G => (if (G 0 14) ≤ (G 0 24) then j_X12_next_149 G else chk (inB (G 0 24) 160) ((if (f_X12_isLetter (G 10 (G 0 24).toNatClampNeg)) = 0 then j_X12_next_149 G else bnd (up2 G 0 24 ((G 0 24) + 1)) (fun G49 => rec G49))))
noncomputable def j_X12_next_60   (G : Mem) : Option (Mem) := bnd (up2 G 0 24 (G 0 23)) (fun G3 => (if (G3 0 23) < (G3 0 14) then chk (inB (G3 0 23) 160) (bnd (G3 10 (G3 0 23).toNatClampNeg) (fun x1_6 => (if (f_X12_isLetter x1_6) = 0 then (if (f_X12_isDigit x1_6) = 0 then bnd (up2 G3 0 24 ((G3 0 24) + 1)) (fun G9 => bnd (up2 G9 0 26 x1_6) (fun G10 => (if x1_6 = 40 then bnd (up2 G10 0 25 3) (fun G12 => some G12) else (if x1_6 = 41 then bnd (up2 G10 0 25 3) (fun G14 => some G14) else (if x1_6 = 59 then bnd (up2 G10 0 25 3) (fun G16 => some G16) else (if x1_6 = 43 then bnd (up2 G10 0 25 3) (fun G18 => some G18) else (if x1_6 = 45 then bnd (up2 G10 0 25 3) (fun G20 => some G20) else (if x1_6 = 42 then bnd (up2 G10 0 25 3) (fun G22 => some G22) else (if x1_6 = 60 then bnd (up2 G10 0 25 3) (fun G24 => some G24) else (if x1_6 = 61 then bnd (up2 G10 0 25 3) (fun G27 => some G27) else bnd (up2 G10 0 25 5) (fun G26 => some G26))))))))))) else bnd (up2 G3 0 26 0) (fun G28 => iter (q_X12_next_188) fuel G28)) else iter (q_X12_next_110) fuel G3))) else bnd (up2 G3 0 23 (G3 0 14)) (fun G50 => bnd (up2 G50 0 25 4) (fun G51 => some G51))))
noncomputable def q_X12_next_8   (rec : Mem → Option (Mem)) : Mem → Option (Mem) := fun G => (if (G 0 14) ≤ (G 0 23) then j_X12_next_60 G else chk (inB (G 0 23) 160) ((if (G 10 (G 0 23).toNatClampNeg) = 32 then bnd (up2 G 0 23 ((G 0 23) + 1)) (fun G54 => rec G54) else chk (inB (G 0 23) 160) ((if (G 10 (G 0 23).toNatClampNeg) = 10 then bnd (up2 G 0 23 ((G 0 23) + 1)) (fun G57 => rec G57) else j_X12_next_60 G)))))
noncomputable def f_X12_next (G : Mem)  : Option (Mem) := bnd (up2 G 0 23 (G 0 24)) (fun G1 => iter (q_X12_next_8) fuel G1)
theorem kyX12_next : Ky yX12_next cX12_next 2 none 0 := ⟨u5_170, u1_15, by decide, by decide, by decide, by decide +kernel⟩
set_option maxHeartbeats 4000000 in
set_option maxRecDepth 100000 in
theorem c_X12_next (l : Launch) (D : va_G) (K : List Nat) (sh : Nat → Ent) (ad : Nat → Nat) (cy : Nat → ClassId) (X : va_W) (B : State → Prop) (hcl : Bcl (AS K ad X) B) (hE : ∀ q ∈ shM, q.1 ∈ K ∧ sh q.1 = q.2) (G : Mem) (L : MemL) (O : MemO)  {Gz : Mem} (hf : f_X12_next G = some Gz) : Met l yX12_next (wsU yX12_next cX12_next 2 none) (rmX 3 0 0) (va_Pc [.ref (ad 0)] (PS D K sh ad cy X B G L O)) (QV (AS K ad X) (PH D K sh ad cy X Gz L O)) 0 0 (AS K ad X) := by
  refine s_met (by decide) (Nat.le_of_ble_eq_true rfl) ?_
  intro p e s m args below meth c ls H locs E hK hBs hnm hI hl
  have hl : lv_has ls 2 [(0, .ref (ad 0))] := hl
  have E : Cx p s m args meth c RX12 cX12_next 2 none := E
  obtain ⟨hx, hb, hr, hml, hown, hu, hlocks⟩ := id E
  have B264 : ∀    (G : Mem) (H : Heap) (locs : List Loc) (ls : Array Slot), lv_has ls 2 [(0, .ref (ad 0))] → IS D K sh ad cy X (AS K ad X) s.heap H locs G L O → j_X12_next_264 G = some Gz → W p l e (rmX 3 0 0) s m args below meth c H locs 0 0 (MQ below (QV (AS K ad X) (PH D K sh ad cy X Gz L O)) args s 0 0 (AS K ad X)) (F0 m 264 ls []) := by
    intro  G H locs ls hl hI hf
    rw [j_X12_next_264] at hf
    refine lv_aload_n hx hb dX12_next_264 rfl (lv_at hl 0 rfl) ?_
    refine lv_aload_n hx hb dX12_next_265 rfl (lv_at hl 0 rfl) ?_
    refine s_get (v := .int (G 0 24)) hx hb hu inU12 hown hK hI (mE hE eM_0) rfl 24 (by decide) u4_212 (fun _ h => h) rfl rfl dX12_next_266 ?_
    refine lv_aload_n hx hb dX12_next_269 rfl (lv_at hl 0 rfl) ?_
    refine s_get (v := .int (G 0 23)) hx hb hu inU12 hown hK hI (mE hE eM_0) rfl 23 (by decide) u4_211 (fun _ h => h) rfl rfl dX12_next_270 ?_
    refine lv_isub hx hb dX12_next_273 ?_
    refine lv_iconst (v := 4) hx hb dX12_next_274 (by decide) ?_
    refine lv_icmp_le (tgt := 282) hx hb dX12_next_275 (by decide) (fun c30 => ?_) (fun c30 => ?_)
    · have hf := ite_t c30 hf
      refine lv_iconst (v := 2) hx hb dX12_next_282 (by decide) ?_
      obtain ⟨G31, eG31, hf⟩ := bnd_i hf
      refine s_put (ty := .int) hx hb hu inU12 tyX12_ok nmX12 hown hK hI (mE hE eM_0) rfl 25 (by decide) u4_213 (fun _ h => h) rfl rfl (tyX12_ok 25 (by decide)) rfl rfl eG31 dX12_next_283 (fun H locs hI => ?_)
      refine lv_goto (tgt := 361) hx hb dX12_next_286 (by decide) ?_
      cases hf
      exact s_vret hx hb hr hI.2.2 hI.1 hlocks dX12_next_361
    · have hf := ite_f c30 hf
      refine lv_iconst (v := 5) hx hb dX12_next_278 (by decide) ?_
      refine lv_goto (tgt := 283) hx hb dX12_next_279 (by decide) ?_
      obtain ⟨G32, eG32, hf⟩ := bnd_i hf
      refine s_put (ty := .int) hx hb hu inU12 tyX12_ok nmX12 hown hK hI (mE hE eM_0) rfl 25 (by decide) u4_213 (fun _ h => h) rfl rfl (tyX12_ok 25 (by decide)) rfl rfl eG32 dX12_next_283 (fun H locs hI => ?_)
      refine lv_goto (tgt := 361) hx hb dX12_next_286 (by decide) ?_
      cases hf
      exact s_vret hx hb hr hI.2.2 hI.1 hlocks dX12_next_361
  have B188 : ∀   (n : Nat) (G : Mem) (H : Heap) (locs : List Loc) (ls : Array Slot), lv_has ls 2 [(0, .ref (ad 0))] → IS D K sh ad cy X (AS K ad X) s.heap H locs G L O → iter (q_X12_next_188) n G = some Gz → W p l e (rmX 3 0 0) s m args below meth c H locs 0 0 (MQ below (QV (AS K ad X) (PH D K sh ad cy X Gz L O)) args s 0 0 (AS K ad X)) (F0 m 188 ls []) := by
    intro n
    induction n with
    | zero => intro G H locs ls hl hI hf; exact iter_0 hf
    | succ n ih =>
      intro G H locs ls hl hI hf
      have hf : q_X12_next_188 (iter (q_X12_next_188) n) G = some Gz := hf
      rw [q_X12_next_188] at hf
      refine lv_aload_n hx hb dX12_next_188 rfl (lv_at hl 0 rfl) ?_
      refine s_get (v := .int (G 0 24)) hx hb hu inU12 hown hK hI (mE hE eM_0) rfl 24 (by decide) u4_212 (fun _ h => h) rfl rfl dX12_next_189 ?_
      refine lv_aload_n hx hb dX12_next_192 rfl (lv_at hl 0 rfl) ?_
      refine s_get (v := .int (G 0 14)) hx hb hu inU12 hown hK hI (mE hE eM_0) rfl 14 (by decide) u4_202 (fun _ h => h) rfl rfl dX12_next_193 ?_
      refine lv_icmp_ge (tgt := 264) hx hb dX12_next_196 (by decide) (fun c29 => ?_) (fun c29 => ?_)
      · have hf := ite_t c29 hf
        exact B264    G H locs ls (lv_sub hl [0] rfl) hI hf
      · have hf := ite_f c29 hf
        refine lv_aload_n hx hb dX12_next_199 rfl (lv_at hl 0 rfl) ?_
        refine s_get (v := .ref (ad 10)) hx hb hu inU12 hown hK hI (mE hE eM_0) rfl 13 (by decide) u4_201 (fun _ h => h) rfl rfl dX12_next_200 ?_
        refine lv_aload_n hx hb dX12_next_203 rfl (lv_at hl 0 rfl) ?_
        refine s_get (v := .int (G 0 24)) hx hb hu inU12 hown hK hI (mE hE eM_0) rfl 24 (by decide) u4_212 (fun _ h => h) rfl rfl dX12_next_204 ?_
        obtain ⟨h33, hf⟩ := chk_i hf
        refine s_bld hx hb hK hI (mE hE eM_10) (inB_i h33) dX12_next_207 ?_
        refine s_cSP (np := 1) (rest := []) E (c_X12_isDigit l (G 10 (G 0 24).toNatClampNeg) rfl) kyX12_isDigit u5_178 u5_179 (by decide) rfl hl.1 rfl (Nat.le_of_ble_eq_true rfl) ⟨Nat.zero_le _, Nat.zero_le _⟩ dX12_next_208 ?_
        refine lv_if_eq (tgt := 264) hx hb dX12_next_211 (by decide) (fun c34 => ?_) (fun c34 => ?_)
        · have hf := ite_t c34 hf
          exact B264    G H locs ls (lv_sub hl [0] rfl) hI hf
        · have hf := ite_f c34 hf
          refine lv_aload_n hx hb dX12_next_214 rfl (lv_at hl 0 rfl) ?_
          refine s_get (v := .int (G 0 24)) hx hb hu inU12 hown hK hI (mE hE eM_0) rfl 24 (by decide) u4_212 (fun _ h => h) rfl rfl dX12_next_215 ?_
          refine lv_aload_n hx hb dX12_next_218 rfl (lv_at hl 0 rfl) ?_
          refine s_get (v := .int (G 0 23)) hx hb hu inU12 hown hK hI (mE hE eM_0) rfl 23 (by decide) u4_211 (fun _ h => h) rfl rfl dX12_next_219 ?_
          refine lv_isub hx hb dX12_next_222 ?_
          refine lv_iconst (v := 4) hx hb dX12_next_223 (by decide) ?_
          refine lv_icmp_ge (tgt := 251) hx hb dX12_next_224 (by decide) (fun c35 => ?_) (fun c35 => ?_)
          · have hf := ite_t c35 hf
            refine lv_aload_n hx hb dX12_next_251 rfl (lv_at hl 0 rfl) ?_
            refine lv_dup hx hb dX12_next_252 rfl ?_
            refine s_get (v := .int (G 0 24)) hx hb hu inU12 hown hK hI (mE hE eM_0) rfl 24 (by decide) u4_212 (fun _ h => h) rfl rfl dX12_next_253 ?_
            refine lv_iconst (v := 1) hx hb dX12_next_256 (by decide) ?_
            refine lv_iadd hx hb dX12_next_257 ?_
            obtain ⟨G36, eG36, hf⟩ := bnd_i hf
            refine s_put (ty := .int) hx hb hu inU12 tyX12_ok nmX12 hown hK hI (mE hE eM_0) rfl 24 (by decide) u4_212 (fun _ h => h) rfl rfl (tyX12_ok 24 (by decide)) rfl rfl eG36 dX12_next_258 (fun H locs hI => ?_)
            refine lv_goto (tgt := 188) hx hb dX12_next_261 (by decide) ?_
            exact ih G36 H locs ls (lv_sub hl [0] rfl) hI hf
          · have hf := ite_f c35 hf
            refine lv_aload_n hx hb dX12_next_227 rfl (lv_at hl 0 rfl) ?_
            refine lv_bipush (v := 10) hx hb dX12_next_228 (by decide) ?_
            refine lv_aload_n hx hb dX12_next_230 rfl (lv_at hl 0 rfl) ?_
            refine s_get (v := .int (G 0 26)) hx hb hu inU12 hown hK hI (mE hE eM_0) rfl 26 (by decide) u4_214 (fun _ h => h) rfl rfl dX12_next_231 ?_
            refine lv_imul hx hb dX12_next_234 ?_
            refine lv_aload_n hx hb dX12_next_235 rfl (lv_at hl 0 rfl) ?_
            refine s_get (v := .ref (ad 10)) hx hb hu inU12 hown hK hI (mE hE eM_0) rfl 13 (by decide) u4_201 (fun _ h => h) rfl rfl dX12_next_236 ?_
            refine lv_aload_n hx hb dX12_next_239 rfl (lv_at hl 0 rfl) ?_
            refine s_get (v := .int (G 0 24)) hx hb hu inU12 hown hK hI (mE hE eM_0) rfl 24 (by decide) u4_212 (fun _ h => h) rfl rfl dX12_next_240 ?_
            obtain ⟨h37, hf⟩ := chk_i hf
            refine s_bld hx hb hK hI (mE hE eM_10) (inB_i h37) dX12_next_243 ?_
            refine lv_iadd hx hb dX12_next_244 ?_
            refine lv_bipush (v := 48) hx hb dX12_next_245 (by decide) ?_
            refine lv_isub hx hb dX12_next_247 ?_
            obtain ⟨G38, eG38, hf⟩ := bnd_i hf
            refine s_put (ty := .int) hx hb hu inU12 tyX12_ok nmX12 hown hK hI (mE hE eM_0) rfl 26 (by decide) u4_214 (fun _ h => h) rfl rfl (tyX12_ok 26 (by decide)) rfl rfl eG38 dX12_next_248 (fun H locs hI => ?_)
            refine lv_aload_n hx hb dX12_next_251 rfl (lv_at hl 0 rfl) ?_
            refine lv_dup hx hb dX12_next_252 rfl ?_
            refine s_get (v := .int (G38 0 24)) hx hb hu inU12 hown hK hI (mE hE eM_0) rfl 24 (by decide) u4_212 (fun _ h => h) rfl rfl dX12_next_253 ?_
            refine lv_iconst (v := 1) hx hb dX12_next_256 (by decide) ?_
            refine lv_iadd hx hb dX12_next_257 ?_
            obtain ⟨G39, eG39, hf⟩ := bnd_i hf
            refine s_put (ty := .int) hx hb hu inU12 tyX12_ok nmX12 hown hK hI (mE hE eM_0) rfl 24 (by decide) u4_212 (fun _ h => h) rfl rfl (tyX12_ok 24 (by decide)) rfl rfl eG39 dX12_next_258 (fun H locs hI => ?_)
            refine lv_goto (tgt := 188) hx hb dX12_next_261 (by decide) ?_
            exact ih G39 H locs ls (lv_sub hl [0] rfl) hI hf
  have B149 : ∀    (G : Mem) (H : Heap) (locs : List Loc) (ls : Array Slot), lv_has ls 2 [(0, .ref (ad 0))] → IS D K sh ad cy X (AS K ad X) s.heap H locs G L O → j_X12_next_149 G = some Gz → W p l e (rmX 3 0 0) s m args below meth c H locs 0 0 (MQ below (QV (AS K ad X) (PH D K sh ad cy X Gz L O)) args s 0 0 (AS K ad X)) (F0 m 149 ls []) := by
    intro  G H locs ls hl hI hf
    rw [j_X12_next_149] at hf
    refine lv_aload_n hx hb dX12_next_149 rfl (lv_at hl 0 rfl) ?_
    refine lv_aload_n hx hb dX12_next_150 rfl (lv_at hl 0 rfl) ?_
    obtain ⟨v41, h42, hf⟩ := bndO_i hf
    refine s_afI hI (s_runV (rest := [.ref (ad 0)]) (As := []) (np := 0) E hK hI (s_B hcl hBs hI) hcl.2 (mE hE eM_0) rfl (c_X12_wordNow l D K sh ad cy X B hcl hE G L O  h42) kyX12_wordNow u5_174 u5_176 up_30 (by decide) rfl hl.1 rfl (Nat.le_of_ble_eq_true rfl) ⟨Nat.zero_le _, Nat.zero_le _⟩ dX12_next_151) (fun H locs hI => ?_)
    obtain ⟨G43, eG43, hf⟩ := bnd_i hf
    refine s_put (ty := .int) hx hb hu inU12 tyX12_ok nmX12 hown hK hI (mE hE eM_0) rfl 26 (by decide) u4_214 (fun _ h => h) rfl rfl (tyX12_ok 26 (by decide)) rfl rfl eG43 dX12_next_154 (fun H locs hI => ?_)
    refine lv_aload_n hx hb dX12_next_157 rfl (lv_at hl 0 rfl) ?_
    refine lv_aload_n hx hb dX12_next_158 rfl (lv_at hl 0 rfl) ?_
    refine s_get (v := .int (G43 0 26)) hx hb hu inU12 hown hK hI (mE hE eM_0) rfl 26 (by decide) u4_214 (fun _ h => h) rfl rfl dX12_next_159 ?_
    refine lv_if_ge (tgt := 169) hx hb dX12_next_162 (by decide) (fun c44 => ?_) (fun c44 => ?_)
    · have hf := ite_t c44 hf
      refine lv_iconst (v := 1) hx hb dX12_next_169 (by decide) ?_
      obtain ⟨G45, eG45, hf⟩ := bnd_i hf
      refine s_put (ty := .int) hx hb hu inU12 tyX12_ok nmX12 hown hK hI (mE hE eM_0) rfl 25 (by decide) u4_213 (fun _ h => h) rfl rfl (tyX12_ok 25 (by decide)) rfl rfl eG45 dX12_next_170 (fun H locs hI => ?_)
      refine lv_goto (tgt := 361) hx hb dX12_next_173 (by decide) ?_
      cases hf
      exact s_vret hx hb hr hI.2.2 hI.1 hlocks dX12_next_361
    · have hf := ite_f c44 hf
      refine lv_iconst (v := 5) hx hb dX12_next_165 (by decide) ?_
      refine lv_goto (tgt := 170) hx hb dX12_next_166 (by decide) ?_
      obtain ⟨G46, eG46, hf⟩ := bnd_i hf
      refine s_put (ty := .int) hx hb hu inU12 tyX12_ok nmX12 hown hK hI (mE hE eM_0) rfl 25 (by decide) u4_213 (fun _ h => h) rfl rfl (tyX12_ok 25 (by decide)) rfl rfl eG46 dX12_next_170 (fun H locs hI => ?_)
      refine lv_goto (tgt := 361) hx hb dX12_next_173 (by decide) ?_
      cases hf
      exact s_vret hx hb hr hI.2.2 hI.1 hlocks dX12_next_361
  have B110 : ∀   (n : Nat) (G : Mem) (H : Heap) (locs : List Loc) (ls : Array Slot), lv_has ls 2 [(0, .ref (ad 0))] → IS D K sh ad cy X (AS K ad X) s.heap H locs G L O → iter (q_X12_next_110) n G = some Gz → W p l e (rmX 3 0 0) s m args below meth c H locs 0 0 (MQ below (QV (AS K ad X) (PH D K sh ad cy X Gz L O)) args s 0 0 (AS K ad X)) (F0 m 110 ls []) := by
    intro n
    induction n with
    | zero => intro G H locs ls hl hI hf; exact iter_0 hf
    | succ n ih =>
      intro G H locs ls hl hI hf
      have hf : q_X12_next_110 (iter (q_X12_next_110) n) G = some Gz := hf
      rw [q_X12_next_110] at hf
      refine lv_aload_n hx hb dX12_next_110 rfl (lv_at hl 0 rfl) ?_
      refine s_get (v := .int (G 0 24)) hx hb hu inU12 hown hK hI (mE hE eM_0) rfl 24 (by decide) u4_212 (fun _ h => h) rfl rfl dX12_next_111 ?_
      refine lv_aload_n hx hb dX12_next_114 rfl (lv_at hl 0 rfl) ?_
      refine s_get (v := .int (G 0 14)) hx hb hu inU12 hown hK hI (mE hE eM_0) rfl 14 (by decide) u4_202 (fun _ h => h) rfl rfl dX12_next_115 ?_
      refine lv_icmp_ge (tgt := 149) hx hb dX12_next_118 (by decide) (fun c40 => ?_) (fun c40 => ?_)
      · have hf := ite_t c40 hf
        exact B149    G H locs ls (lv_sub hl [0] rfl) hI hf
      · have hf := ite_f c40 hf
        refine lv_aload_n hx hb dX12_next_121 rfl (lv_at hl 0 rfl) ?_
        refine s_get (v := .ref (ad 10)) hx hb hu inU12 hown hK hI (mE hE eM_0) rfl 13 (by decide) u4_201 (fun _ h => h) rfl rfl dX12_next_122 ?_
        refine lv_aload_n hx hb dX12_next_125 rfl (lv_at hl 0 rfl) ?_
        refine s_get (v := .int (G 0 24)) hx hb hu inU12 hown hK hI (mE hE eM_0) rfl 24 (by decide) u4_212 (fun _ h => h) rfl rfl dX12_next_126 ?_
        obtain ⟨h47, hf⟩ := chk_i hf
        refine s_bld hx hb hK hI (mE hE eM_10) (inB_i h47) dX12_next_129 ?_
        refine s_cSP (np := 1) (rest := []) E (c_X12_isLetter l (G 10 (G 0 24).toNatClampNeg) rfl) kyX12_isLetter u5_171 u5_172 (by decide) rfl hl.1 rfl (Nat.le_of_ble_eq_true rfl) ⟨Nat.zero_le _, Nat.zero_le _⟩ dX12_next_130 ?_
        refine lv_if_eq (tgt := 149) hx hb dX12_next_133 (by decide) (fun c48 => ?_) (fun c48 => ?_)
        · have hf := ite_t c48 hf
          exact B149    G H locs ls (lv_sub hl [0] rfl) hI hf
        · have hf := ite_f c48 hf
          refine lv_aload_n hx hb dX12_next_136 rfl (lv_at hl 0 rfl) ?_
          refine lv_dup hx hb dX12_next_137 rfl ?_
          refine s_get (v := .int (G 0 24)) hx hb hu inU12 hown hK hI (mE hE eM_0) rfl 24 (by decide) u4_212 (fun _ h => h) rfl rfl dX12_next_138 ?_
          refine lv_iconst (v := 1) hx hb dX12_next_141 (by decide) ?_
          refine lv_iadd hx hb dX12_next_142 ?_
          obtain ⟨G49, eG49, hf⟩ := bnd_i hf
          refine s_put (ty := .int) hx hb hu inU12 tyX12_ok nmX12 hown hK hI (mE hE eM_0) rfl 24 (by decide) u4_212 (fun _ h => h) rfl rfl (tyX12_ok 24 (by decide)) rfl rfl eG49 dX12_next_143 (fun H locs hI => ?_)
          refine lv_goto (tgt := 110) hx hb dX12_next_146 (by decide) ?_
          exact ih G49 H locs ls (lv_sub hl [0] rfl) hI hf
  have B60 : ∀    (G : Mem) (H : Heap) (locs : List Loc) (ls : Array Slot), lv_has ls 2 [(0, .ref (ad 0))] → IS D K sh ad cy X (AS K ad X) s.heap H locs G L O → j_X12_next_60 G = some Gz → W p l e (rmX 3 0 0) s m args below meth c H locs 0 0 (MQ below (QV (AS K ad X) (PH D K sh ad cy X Gz L O)) args s 0 0 (AS K ad X)) (F0 m 60 ls []) := by
    intro  G H locs ls hl hI hf
    rw [j_X12_next_60] at hf
    refine lv_aload_n hx hb dX12_next_60 rfl (lv_at hl 0 rfl) ?_
    refine lv_aload_n hx hb dX12_next_61 rfl (lv_at hl 0 rfl) ?_
    refine s_get (v := .int (G 0 23)) hx hb hu inU12 hown hK hI (mE hE eM_0) rfl 23 (by decide) u4_211 (fun _ h => h) rfl rfl dX12_next_62 ?_
    obtain ⟨G3, eG3, hf⟩ := bnd_i hf
    refine s_put (ty := .int) hx hb hu inU12 tyX12_ok nmX12 hown hK hI (mE hE eM_0) rfl 24 (by decide) u4_212 (fun _ h => h) rfl rfl (tyX12_ok 24 (by decide)) rfl rfl eG3 dX12_next_65 (fun H locs hI => ?_)
    refine lv_aload_n hx hb dX12_next_68 rfl (lv_at hl 0 rfl) ?_
    refine s_get (v := .int (G3 0 23)) hx hb hu inU12 hown hK hI (mE hE eM_0) rfl 23 (by decide) u4_211 (fun _ h => h) rfl rfl dX12_next_69 ?_
    refine lv_aload_n hx hb dX12_next_72 rfl (lv_at hl 0 rfl) ?_
    refine s_get (v := .int (G3 0 14)) hx hb hu inU12 hown hK hI (mE hE eM_0) rfl 14 (by decide) u4_202 (fun _ h => h) rfl rfl dX12_next_73 ?_
    refine lv_icmp_lt (tgt := 93) hx hb dX12_next_76 (by decide) (fun c4 => ?_) (fun c4 => ?_)
    · have hf := ite_t c4 hf
      refine lv_aload_n hx hb dX12_next_93 rfl (lv_at hl 0 rfl) ?_
      refine s_get (v := .ref (ad 10)) hx hb hu inU12 hown hK hI (mE hE eM_0) rfl 13 (by decide) u4_201 (fun _ h => h) rfl rfl dX12_next_94 ?_
      refine lv_aload_n hx hb dX12_next_97 rfl (lv_at hl 0 rfl) ?_
      refine s_get (v := .int (G3 0 23)) hx hb hu inU12 hown hK hI (mE hE eM_0) rfl 23 (by decide) u4_211 (fun _ h => h) rfl rfl dX12_next_98 ?_
      obtain ⟨h5, hf⟩ := chk_i hf
      refine s_bld hx hb hK hI (mE hE eM_10) (inB_i h5) dX12_next_101 ?_
      obtain ⟨x1_6, ex1_6, hf⟩ := bnd_i hf
      refine s_nmI ex1_6 ?_
      refine lv_istore_n (lv' := [(1, .int x1_6), (0, .ref (ad 0))]) hx hb dX12_next_102 rfl hl (by decide) rfl (fun ls hl => ?_)
      refine lv_iload_n hx hb dX12_next_103 rfl (lv_at hl 0 rfl) ?_
      refine s_cSP (np := 1) (rest := []) E (c_X12_isLetter l x1_6 rfl) kyX12_isLetter u5_171 u5_172 (by decide) rfl hl.1 rfl (Nat.le_of_ble_eq_true rfl) ⟨Nat.zero_le _, Nat.zero_le _⟩ dX12_next_104 ?_
      refine lv_if_eq (tgt := 176) hx hb dX12_next_107 (by decide) (fun c7 => ?_) (fun c7 => ?_)
      · have hf := ite_t c7 hf
        refine lv_iload_n hx hb dX12_next_176 rfl (lv_at hl 0 rfl) ?_
        refine s_cSP (np := 1) (rest := []) E (c_X12_isDigit l x1_6 rfl) kyX12_isDigit u5_178 u5_179 (by decide) rfl hl.1 rfl (Nat.le_of_ble_eq_true rfl) ⟨Nat.zero_le _, Nat.zero_le _⟩ dX12_next_177 ?_
        refine lv_if_eq (tgt := 289) hx hb dX12_next_180 (by decide) (fun c8 => ?_) (fun c8 => ?_)
        · have hf := ite_t c8 hf
          refine lv_aload_n hx hb dX12_next_289 rfl (lv_at hl 1 rfl) ?_
          refine lv_dup hx hb dX12_next_290 rfl ?_
          refine s_get (v := .int (G3 0 24)) hx hb hu inU12 hown hK hI (mE hE eM_0) rfl 24 (by decide) u4_212 (fun _ h => h) rfl rfl dX12_next_291 ?_
          refine lv_iconst (v := 1) hx hb dX12_next_294 (by decide) ?_
          refine lv_iadd hx hb dX12_next_295 ?_
          obtain ⟨G9, eG9, hf⟩ := bnd_i hf
          refine s_put (ty := .int) hx hb hu inU12 tyX12_ok nmX12 hown hK hI (mE hE eM_0) rfl 24 (by decide) u4_212 (fun _ h => h) rfl rfl (tyX12_ok 24 (by decide)) rfl rfl eG9 dX12_next_296 (fun H locs hI => ?_)
          refine lv_aload_n hx hb dX12_next_299 rfl (lv_at hl 1 rfl) ?_
          refine lv_iload_n hx hb dX12_next_300 rfl (lv_at hl 0 rfl) ?_
          obtain ⟨G10, eG10, hf⟩ := bnd_i hf
          refine s_put (ty := .int) hx hb hu inU12 tyX12_ok nmX12 hown hK hI (mE hE eM_0) rfl 26 (by decide) u4_214 (fun _ h => h) rfl rfl (tyX12_ok 26 (by decide)) rfl rfl eG10 dX12_next_301 (fun H locs hI => ?_)
          refine lv_aload_n hx hb dX12_next_304 rfl (lv_at hl 1 rfl) ?_
          refine lv_iload_n hx hb dX12_next_305 rfl (lv_at hl 0 rfl) ?_
          refine lv_bipush (v := 40) hx hb dX12_next_306 (by decide) ?_
          refine lv_icmp_eq (tgt := 353) hx hb dX12_next_308 (by decide) (fun c11 => ?_) (fun c11 => ?_)
          · have hf := ite_t c11 hf
            refine lv_iconst (v := 3) hx hb dX12_next_353 (by decide) ?_
            refine lv_goto (tgt := 358) hx hb dX12_next_354 (by decide) ?_
            obtain ⟨G12, eG12, hf⟩ := bnd_i hf
            refine s_put (ty := .int) hx hb hu inU12 tyX12_ok nmX12 hown hK hI (mE hE eM_0) rfl 25 (by decide) u4_213 (fun _ h => h) rfl rfl (tyX12_ok 25 (by decide)) rfl rfl eG12 dX12_next_358 (fun H locs hI => ?_)
            cases hf
            exact s_vret hx hb hr hI.2.2 hI.1 hlocks dX12_next_361
          · have hf := ite_f c11 hf
            refine lv_iload_n hx hb dX12_next_311 rfl (lv_at hl 0 rfl) ?_
            refine lv_bipush (v := 41) hx hb dX12_next_312 (by decide) ?_
            refine lv_icmp_eq (tgt := 353) hx hb dX12_next_314 (by decide) (fun c13 => ?_) (fun c13 => ?_)
            · have hf := ite_t c13 hf
              refine lv_iconst (v := 3) hx hb dX12_next_353 (by decide) ?_
              refine lv_goto (tgt := 358) hx hb dX12_next_354 (by decide) ?_
              obtain ⟨G14, eG14, hf⟩ := bnd_i hf
              refine s_put (ty := .int) hx hb hu inU12 tyX12_ok nmX12 hown hK hI (mE hE eM_0) rfl 25 (by decide) u4_213 (fun _ h => h) rfl rfl (tyX12_ok 25 (by decide)) rfl rfl eG14 dX12_next_358 (fun H locs hI => ?_)
              cases hf
              exact s_vret hx hb hr hI.2.2 hI.1 hlocks dX12_next_361
            · have hf := ite_f c13 hf
              refine lv_iload_n hx hb dX12_next_317 rfl (lv_at hl 0 rfl) ?_
              refine lv_bipush (v := 59) hx hb dX12_next_318 (by decide) ?_
              refine lv_icmp_eq (tgt := 353) hx hb dX12_next_320 (by decide) (fun c15 => ?_) (fun c15 => ?_)
              · have hf := ite_t c15 hf
                refine lv_iconst (v := 3) hx hb dX12_next_353 (by decide) ?_
                refine lv_goto (tgt := 358) hx hb dX12_next_354 (by decide) ?_
                obtain ⟨G16, eG16, hf⟩ := bnd_i hf
                refine s_put (ty := .int) hx hb hu inU12 tyX12_ok nmX12 hown hK hI (mE hE eM_0) rfl 25 (by decide) u4_213 (fun _ h => h) rfl rfl (tyX12_ok 25 (by decide)) rfl rfl eG16 dX12_next_358 (fun H locs hI => ?_)
                cases hf
                exact s_vret hx hb hr hI.2.2 hI.1 hlocks dX12_next_361
              · have hf := ite_f c15 hf
                refine lv_iload_n hx hb dX12_next_323 rfl (lv_at hl 0 rfl) ?_
                refine lv_bipush (v := 43) hx hb dX12_next_324 (by decide) ?_
                refine lv_icmp_eq (tgt := 353) hx hb dX12_next_326 (by decide) (fun c17 => ?_) (fun c17 => ?_)
                · have hf := ite_t c17 hf
                  refine lv_iconst (v := 3) hx hb dX12_next_353 (by decide) ?_
                  refine lv_goto (tgt := 358) hx hb dX12_next_354 (by decide) ?_
                  obtain ⟨G18, eG18, hf⟩ := bnd_i hf
                  refine s_put (ty := .int) hx hb hu inU12 tyX12_ok nmX12 hown hK hI (mE hE eM_0) rfl 25 (by decide) u4_213 (fun _ h => h) rfl rfl (tyX12_ok 25 (by decide)) rfl rfl eG18 dX12_next_358 (fun H locs hI => ?_)
                  cases hf
                  exact s_vret hx hb hr hI.2.2 hI.1 hlocks dX12_next_361
                · have hf := ite_f c17 hf
                  refine lv_iload_n hx hb dX12_next_329 rfl (lv_at hl 0 rfl) ?_
                  refine lv_bipush (v := 45) hx hb dX12_next_330 (by decide) ?_
                  refine lv_icmp_eq (tgt := 353) hx hb dX12_next_332 (by decide) (fun c19 => ?_) (fun c19 => ?_)
                  · have hf := ite_t c19 hf
                    refine lv_iconst (v := 3) hx hb dX12_next_353 (by decide) ?_
                    refine lv_goto (tgt := 358) hx hb dX12_next_354 (by decide) ?_
                    obtain ⟨G20, eG20, hf⟩ := bnd_i hf
                    refine s_put (ty := .int) hx hb hu inU12 tyX12_ok nmX12 hown hK hI (mE hE eM_0) rfl 25 (by decide) u4_213 (fun _ h => h) rfl rfl (tyX12_ok 25 (by decide)) rfl rfl eG20 dX12_next_358 (fun H locs hI => ?_)
                    cases hf
                    exact s_vret hx hb hr hI.2.2 hI.1 hlocks dX12_next_361
                  · have hf := ite_f c19 hf
                    refine lv_iload_n hx hb dX12_next_335 rfl (lv_at hl 0 rfl) ?_
                    refine lv_bipush (v := 42) hx hb dX12_next_336 (by decide) ?_
                    refine lv_icmp_eq (tgt := 353) hx hb dX12_next_338 (by decide) (fun c21 => ?_) (fun c21 => ?_)
                    · have hf := ite_t c21 hf
                      refine lv_iconst (v := 3) hx hb dX12_next_353 (by decide) ?_
                      refine lv_goto (tgt := 358) hx hb dX12_next_354 (by decide) ?_
                      obtain ⟨G22, eG22, hf⟩ := bnd_i hf
                      refine s_put (ty := .int) hx hb hu inU12 tyX12_ok nmX12 hown hK hI (mE hE eM_0) rfl 25 (by decide) u4_213 (fun _ h => h) rfl rfl (tyX12_ok 25 (by decide)) rfl rfl eG22 dX12_next_358 (fun H locs hI => ?_)
                      cases hf
                      exact s_vret hx hb hr hI.2.2 hI.1 hlocks dX12_next_361
                    · have hf := ite_f c21 hf
                      refine lv_iload_n hx hb dX12_next_341 rfl (lv_at hl 0 rfl) ?_
                      refine lv_bipush (v := 60) hx hb dX12_next_342 (by decide) ?_
                      refine lv_icmp_eq (tgt := 353) hx hb dX12_next_344 (by decide) (fun c23 => ?_) (fun c23 => ?_)
                      · have hf := ite_t c23 hf
                        refine lv_iconst (v := 3) hx hb dX12_next_353 (by decide) ?_
                        refine lv_goto (tgt := 358) hx hb dX12_next_354 (by decide) ?_
                        obtain ⟨G24, eG24, hf⟩ := bnd_i hf
                        refine s_put (ty := .int) hx hb hu inU12 tyX12_ok nmX12 hown hK hI (mE hE eM_0) rfl 25 (by decide) u4_213 (fun _ h => h) rfl rfl (tyX12_ok 25 (by decide)) rfl rfl eG24 dX12_next_358 (fun H locs hI => ?_)
                        cases hf
                        exact s_vret hx hb hr hI.2.2 hI.1 hlocks dX12_next_361
                      · have hf := ite_f c23 hf
                        refine lv_iload_n hx hb dX12_next_347 rfl (lv_at hl 0 rfl) ?_
                        refine lv_bipush (v := 61) hx hb dX12_next_348 (by decide) ?_
                        refine lv_icmp_ne (tgt := 357) hx hb dX12_next_350 (by decide) (fun c25 => ?_) (fun c25 => ?_)
                        · have hf := ite_f c25 hf
                          refine lv_iconst (v := 5) hx hb dX12_next_357 (by decide) ?_
                          obtain ⟨G26, eG26, hf⟩ := bnd_i hf
                          refine s_put (ty := .int) hx hb hu inU12 tyX12_ok nmX12 hown hK hI (mE hE eM_0) rfl 25 (by decide) u4_213 (fun _ h => h) rfl rfl (tyX12_ok 25 (by decide)) rfl rfl eG26 dX12_next_358 (fun H locs hI => ?_)
                          cases hf
                          exact s_vret hx hb hr hI.2.2 hI.1 hlocks dX12_next_361
                        · have hf := ite_t c25 hf
                          refine lv_iconst (v := 3) hx hb dX12_next_353 (by decide) ?_
                          refine lv_goto (tgt := 358) hx hb dX12_next_354 (by decide) ?_
                          obtain ⟨G27, eG27, hf⟩ := bnd_i hf
                          refine s_put (ty := .int) hx hb hu inU12 tyX12_ok nmX12 hown hK hI (mE hE eM_0) rfl 25 (by decide) u4_213 (fun _ h => h) rfl rfl (tyX12_ok 25 (by decide)) rfl rfl eG27 dX12_next_358 (fun H locs hI => ?_)
                          cases hf
                          exact s_vret hx hb hr hI.2.2 hI.1 hlocks dX12_next_361
        · have hf := ite_f c8 hf
          refine lv_aload_n hx hb dX12_next_183 rfl (lv_at hl 1 rfl) ?_
          refine lv_iconst (v := 0) hx hb dX12_next_184 (by decide) ?_
          obtain ⟨G28, eG28, hf⟩ := bnd_i hf
          refine s_put (ty := .int) hx hb hu inU12 tyX12_ok nmX12 hown hK hI (mE hE eM_0) rfl 26 (by decide) u4_214 (fun _ h => h) rfl rfl (tyX12_ok 26 (by decide)) rfl rfl eG28 dX12_next_185 (fun H locs hI => ?_)
          exact B188   fuel G28 H locs ls (lv_sub hl [1] rfl) hI hf
      · have hf := ite_f c7 hf
        exact B110   fuel G3 H locs ls (lv_sub hl [1] rfl) hI hf
    · have hf := ite_f c4 hf
      refine lv_aload_n hx hb dX12_next_79 rfl (lv_at hl 0 rfl) ?_
      refine lv_aload_n hx hb dX12_next_80 rfl (lv_at hl 0 rfl) ?_
      refine s_get (v := .int (G3 0 14)) hx hb hu inU12 hown hK hI (mE hE eM_0) rfl 14 (by decide) u4_202 (fun _ h => h) rfl rfl dX12_next_81 ?_
      obtain ⟨G50, eG50, hf⟩ := bnd_i hf
      refine s_put (ty := .int) hx hb hu inU12 tyX12_ok nmX12 hown hK hI (mE hE eM_0) rfl 23 (by decide) u4_211 (fun _ h => h) rfl rfl (tyX12_ok 23 (by decide)) rfl rfl eG50 dX12_next_84 (fun H locs hI => ?_)
      refine lv_aload_n hx hb dX12_next_87 rfl (lv_at hl 0 rfl) ?_
      refine lv_iconst (v := 4) hx hb dX12_next_88 (by decide) ?_
      obtain ⟨G51, eG51, hf⟩ := bnd_i hf
      refine s_put (ty := .int) hx hb hu inU12 tyX12_ok nmX12 hown hK hI (mE hE eM_0) rfl 25 (by decide) u4_213 (fun _ h => h) rfl rfl (tyX12_ok 25 (by decide)) rfl rfl eG51 dX12_next_89 (fun H locs hI => ?_)
      cases hf
      exact s_vret hx hb hr hI.2.2 hI.1 hlocks dX12_next_92
  have B8 : ∀   (n : Nat) (G : Mem) (H : Heap) (locs : List Loc) (ls : Array Slot), lv_has ls 2 [(0, .ref (ad 0))] → IS D K sh ad cy X (AS K ad X) s.heap H locs G L O → iter (q_X12_next_8) n G = some Gz → W p l e (rmX 3 0 0) s m args below meth c H locs 0 0 (MQ below (QV (AS K ad X) (PH D K sh ad cy X Gz L O)) args s 0 0 (AS K ad X)) (F0 m 8 ls []) := by
    intro n
    induction n with
    | zero => intro G H locs ls hl hI hf; exact iter_0 hf
    | succ n ih =>
      intro G H locs ls hl hI hf
      have hf : q_X12_next_8 (iter (q_X12_next_8) n) G = some Gz := hf
      rw [q_X12_next_8] at hf
      refine lv_aload_n hx hb dX12_next_8 rfl (lv_at hl 0 rfl) ?_
      refine s_get (v := .int (G 0 23)) hx hb hu inU12 hown hK hI (mE hE eM_0) rfl 23 (by decide) u4_211 (fun _ h => h) rfl rfl dX12_next_9 ?_
      refine lv_aload_n hx hb dX12_next_12 rfl (lv_at hl 0 rfl) ?_
      refine s_get (v := .int (G 0 14)) hx hb hu inU12 hown hK hI (mE hE eM_0) rfl 14 (by decide) u4_202 (fun _ h => h) rfl rfl dX12_next_13 ?_
      refine lv_icmp_ge (tgt := 60) hx hb dX12_next_16 (by decide) (fun c2 => ?_) (fun c2 => ?_)
      · have hf := ite_t c2 hf
        exact B60    G H locs ls (lv_sub hl [0] rfl) hI hf
      · have hf := ite_f c2 hf
        refine lv_aload_n hx hb dX12_next_19 rfl (lv_at hl 0 rfl) ?_
        refine s_get (v := .ref (ad 10)) hx hb hu inU12 hown hK hI (mE hE eM_0) rfl 13 (by decide) u4_201 (fun _ h => h) rfl rfl dX12_next_20 ?_
        refine lv_aload_n hx hb dX12_next_23 rfl (lv_at hl 0 rfl) ?_
        refine s_get (v := .int (G 0 23)) hx hb hu inU12 hown hK hI (mE hE eM_0) rfl 23 (by decide) u4_211 (fun _ h => h) rfl rfl dX12_next_24 ?_
        obtain ⟨h52, hf⟩ := chk_i hf
        refine s_bld hx hb hK hI (mE hE eM_10) (inB_i h52) dX12_next_27 ?_
        refine lv_bipush (v := 32) hx hb dX12_next_28 (by decide) ?_
        refine lv_icmp_eq (tgt := 47) hx hb dX12_next_30 (by decide) (fun c53 => ?_) (fun c53 => ?_)
        · have hf := ite_t c53 hf
          refine lv_aload_n hx hb dX12_next_47 rfl (lv_at hl 0 rfl) ?_
          refine lv_dup hx hb dX12_next_48 rfl ?_
          refine s_get (v := .int (G 0 23)) hx hb hu inU12 hown hK hI (mE hE eM_0) rfl 23 (by decide) u4_211 (fun _ h => h) rfl rfl dX12_next_49 ?_
          refine lv_iconst (v := 1) hx hb dX12_next_52 (by decide) ?_
          refine lv_iadd hx hb dX12_next_53 ?_
          obtain ⟨G54, eG54, hf⟩ := bnd_i hf
          refine s_put (ty := .int) hx hb hu inU12 tyX12_ok nmX12 hown hK hI (mE hE eM_0) rfl 23 (by decide) u4_211 (fun _ h => h) rfl rfl (tyX12_ok 23 (by decide)) rfl rfl eG54 dX12_next_54 (fun H locs hI => ?_)
          refine lv_goto (tgt := 8) hx hb dX12_next_57 (by decide) ?_
          exact ih G54 H locs ls (lv_sub hl [0] rfl) hI hf
        · have hf := ite_f c53 hf
          refine lv_aload_n hx hb dX12_next_33 rfl (lv_at hl 0 rfl) ?_
          refine s_get (v := .ref (ad 10)) hx hb hu inU12 hown hK hI (mE hE eM_0) rfl 13 (by decide) u4_201 (fun _ h => h) rfl rfl dX12_next_34 ?_
          refine lv_aload_n hx hb dX12_next_37 rfl (lv_at hl 0 rfl) ?_
          refine s_get (v := .int (G 0 23)) hx hb hu inU12 hown hK hI (mE hE eM_0) rfl 23 (by decide) u4_211 (fun _ h => h) rfl rfl dX12_next_38 ?_
          obtain ⟨h55, hf⟩ := chk_i hf
          refine s_bld hx hb hK hI (mE hE eM_10) (inB_i h55) dX12_next_41 ?_
          refine lv_bipush (v := 10) hx hb dX12_next_42 (by decide) ?_
          refine lv_icmp_ne (tgt := 60) hx hb dX12_next_44 (by decide) (fun c56 => ?_) (fun c56 => ?_)
          · have hf := ite_f c56 hf
            exact B60    G H locs ls (lv_sub hl [0] rfl) hI hf
          · have hf := ite_t c56 hf
            refine lv_aload_n hx hb dX12_next_47 rfl (lv_at hl 0 rfl) ?_
            refine lv_dup hx hb dX12_next_48 rfl ?_
            refine s_get (v := .int (G 0 23)) hx hb hu inU12 hown hK hI (mE hE eM_0) rfl 23 (by decide) u4_211 (fun _ h => h) rfl rfl dX12_next_49 ?_
            refine lv_iconst (v := 1) hx hb dX12_next_52 (by decide) ?_
            refine lv_iadd hx hb dX12_next_53 ?_
            obtain ⟨G57, eG57, hf⟩ := bnd_i hf
            refine s_put (ty := .int) hx hb hu inU12 tyX12_ok nmX12 hown hK hI (mE hE eM_0) rfl 23 (by decide) u4_211 (fun _ h => h) rfl rfl (tyX12_ok 23 (by decide)) rfl rfl eG57 dX12_next_54 (fun H locs hI => ?_)
            refine lv_goto (tgt := 8) hx hb dX12_next_57 (by decide) ?_
            exact ih G57 H locs ls (lv_sub hl [0] rfl) hI hf
  rw [f_X12_next] at hf
  refine lv_aload_n hx hb dX12_next_0 rfl (lv_at hl 0 rfl) ?_
  refine lv_aload_n hx hb dX12_next_1 rfl (lv_at hl 0 rfl) ?_
  refine s_get (v := .int (G 0 24)) hx hb hu inU12 hown hK hI (mE hE eM_0) rfl 24 (by decide) u4_212 (fun _ h => h) rfl rfl dX12_next_2 ?_
  obtain ⟨G1, eG1, hf⟩ := bnd_i hf
  refine s_put (ty := .int) hx hb hu inU12 tyX12_ok nmX12 hown hK hI (mE hE eM_0) rfl 23 (by decide) u4_211 (fun _ h => h) rfl rfl (tyX12_ok 23 (by decide)) rfl rfl eG1 dX12_next_5 (fun H locs hI => ?_)
  exact B8   fuel G1 H locs ls (lv_sub hl [0] rfl) hI hf
noncomputable def f_X12_faulty (G : Mem)  : Option (Mem) := (if 0 ≤ (G 0 21) then some G else bnd (up2 G 0 21 (G 0 23)) (fun G2 => some G2))
theorem kyX12_faulty : Ky yX12_faulty cX12_faulty 1 none 0 := ⟨u5_192, u1_15, by decide, by decide, by decide, by decide +kernel⟩
set_option maxHeartbeats 4000000 in
set_option maxRecDepth 100000 in
theorem c_X12_faulty (l : Launch) (D : va_G) (K : List Nat) (sh : Nat → Ent) (ad : Nat → Nat) (cy : Nat → ClassId) (X : va_W) (B : State → Prop) (hcl : Bcl (AS K ad X) B) (hE : ∀ q ∈ shM, q.1 ∈ K ∧ sh q.1 = q.2) (G : Mem) (L : MemL) (O : MemO)  {Gz : Mem} (hf : f_X12_faulty G = some Gz) : Met l yX12_faulty (wsU yX12_faulty cX12_faulty 1 none) (rmX 1 0 0) (va_Pc [.ref (ad 0)] (PS D K sh ad cy X B G L O)) (QV (AS K ad X) (PH D K sh ad cy X Gz L O)) 0 0 (AS K ad X) := by
  refine s_met (by decide) (Nat.le_of_ble_eq_true rfl) ?_
  intro p e s m args below meth c ls H locs E hK hBs hnm hI hl
  have hl : lv_has ls 1 [(0, .ref (ad 0))] := hl
  have E : Cx p s m args meth c RX12 cX12_faulty 1 none := E
  obtain ⟨hx, hb, hr, hml, hown, hu, hlocks⟩ := id E
  rw [f_X12_faulty] at hf
  refine lv_aload_n hx hb dX12_faulty_0 rfl (lv_at hl 0 rfl) ?_
  refine s_get (v := .int (G 0 21)) hx hb hu inU12 hown hK hI (mE hE eM_0) rfl 21 (by decide) u4_209 (fun _ h => h) rfl rfl dX12_faulty_1 ?_
  refine lv_if_ge (tgt := 15) hx hb dX12_faulty_4 (by decide) (fun c1 => ?_) (fun c1 => ?_)
  · have hf := ite_t c1 hf
    cases hf
    exact s_vret hx hb hr hI.2.2 hI.1 hlocks dX12_faulty_15
  · have hf := ite_f c1 hf
    refine lv_aload_n hx hb dX12_faulty_7 rfl (lv_at hl 0 rfl) ?_
    refine lv_aload_n hx hb dX12_faulty_8 rfl (lv_at hl 0 rfl) ?_
    refine s_get (v := .int (G 0 23)) hx hb hu inU12 hown hK hI (mE hE eM_0) rfl 23 (by decide) u4_211 (fun _ h => h) rfl rfl dX12_faulty_9 ?_
    obtain ⟨G2, eG2, hf⟩ := bnd_i hf
    refine s_put (ty := .int) hx hb hu inU12 tyX12_ok nmX12 hown hK hI (mE hE eM_0) rfl 21 (by decide) u4_209 (fun _ h => h) rfl rfl (tyX12_ok 21 (by decide)) rfl rfl eG2 dX12_faulty_12 (fun H locs hI => ?_)
    cases hf
    exact s_vret hx hb hr hI.2.2 hI.1 hlocks dX12_faulty_15
noncomputable def f_X12_isSign (G : Mem) (x1 : Int32) : Int32 := (if 0 ≤ (G 0 21) then 0 else (if (G 0 25) = 3 then (if (G 0 26) = x1 then 1 else 0) else 0))
theorem b_X12_isSign (G : Mem) (x1 : Int32) : isB (f_X12_isSign G x1) = true := by
  unfold f_X12_isSign
  first | (repeat' split) <;> rfl
theorem kyX12_isSign : Ky yX12_isSign cX12_isSign 2 (some FieldType.boolean) 1 := ⟨u5_228, u1_15, by decide, by decide, by decide, by decide +kernel⟩
set_option maxHeartbeats 4000000 in
set_option maxRecDepth 100000 in
theorem c_X12_isSign (l : Launch) (D : va_G) (K : List Nat) (sh : Nat → Ent) (ad : Nat → Nat) (cy : Nat → ClassId) (X : va_W) (B : State → Prop) (hcl : Bcl (AS K ad X) B) (hE : ∀ q ∈ shM, q.1 ∈ K ∧ sh q.1 = q.2) (G : Mem) (L : MemL) (O : MemO) (x1 : Int32)  {vz : Int32} (hf : f_X12_isSign G x1 = vz) : Met l yX12_isSign (wsU yX12_isSign cX12_isSign 2 (some FieldType.boolean)) (rmX 1 0 0) (va_Pc [.ref (ad 0), .int x1] (PS D K sh ad cy X B G L O)) (QI (AS K ad X) (PH D K sh ad cy X G L O) vz) 0 0 (AS K ad X) := by
  refine s_met (by decide) (Nat.le_of_ble_eq_true rfl) ?_
  intro p e s m args below meth c ls H locs E hK hBs hnm hI hl
  have hl : lv_has ls 2 [(0, .ref (ad 0)), (1, .int x1)] := hl
  have E : Cx p s m args meth c RX12 cX12_isSign 2 (some FieldType.boolean) := E
  obtain ⟨hx, hb, hr, hml, hown, hu, hlocks⟩ := id E
  rw [f_X12_isSign] at hf
  refine lv_aload_n hx hb dX12_isSign_0 rfl (lv_at hl 0 rfl) ?_
  refine s_get (v := .int (G 0 21)) hx hb hu inU12 hown hK hI (mE hE eM_0) rfl 21 (by decide) u4_209 (fun _ h => h) rfl rfl dX12_isSign_1 ?_
  refine lv_if_ge (tgt := 27) hx hb dX12_isSign_4 (by decide) (fun c1 => ?_) (fun c1 => ?_)
  · have hf := ite_t c1 hf
    refine lv_iconst (v := 0) hx hb dX12_isSign_27 (by decide) ?_
    subst hf
    exact s_zret rfl hx hb hr hI.2.2 hI.1 hlocks dX12_isSign_28
  · have hf := ite_f c1 hf
    refine lv_aload_n hx hb dX12_isSign_7 rfl (lv_at hl 0 rfl) ?_
    refine s_get (v := .int (G 0 25)) hx hb hu inU12 hown hK hI (mE hE eM_0) rfl 25 (by decide) u4_213 (fun _ h => h) rfl rfl dX12_isSign_8 ?_
    refine lv_iconst (v := 3) hx hb dX12_isSign_11 (by decide) ?_
    refine lv_icmp_ne (tgt := 27) hx hb dX12_isSign_12 (by decide) (fun c2 => ?_) (fun c2 => ?_)
    · have hf := ite_f c2 hf
      refine lv_iconst (v := 0) hx hb dX12_isSign_27 (by decide) ?_
      subst hf
      exact s_zret rfl hx hb hr hI.2.2 hI.1 hlocks dX12_isSign_28
    · have hf := ite_t c2 hf
      refine lv_aload_n hx hb dX12_isSign_15 rfl (lv_at hl 0 rfl) ?_
      refine s_get (v := .int (G 0 26)) hx hb hu inU12 hown hK hI (mE hE eM_0) rfl 26 (by decide) u4_214 (fun _ h => h) rfl rfl dX12_isSign_16 ?_
      refine lv_iload_n hx hb dX12_isSign_19 rfl (lv_at hl 1 rfl) ?_
      refine lv_icmp_ne (tgt := 27) hx hb dX12_isSign_20 (by decide) (fun c3 => ?_) (fun c3 => ?_)
      · have hf := ite_f c3 hf
        refine lv_iconst (v := 0) hx hb dX12_isSign_27 (by decide) ?_
        subst hf
        exact s_zret rfl hx hb hr hI.2.2 hI.1 hlocks dX12_isSign_28
      · have hf := ite_t c3 hf
        refine lv_iconst (v := 1) hx hb dX12_isSign_23 (by decide) ?_
        refine lv_goto (tgt := 28) hx hb dX12_isSign_24 (by decide) ?_
        subst hf
        exact s_zret rfl hx hb hr hI.2.2 hI.1 hlocks dX12_isSign_28
noncomputable def f_X12_isKey (G : Mem) (x1 : Int32) : Int32 := (if 0 ≤ (G 0 21) then 0 else (if (G 0 25) = 1 then (if (G 0 26) = x1 then 1 else 0) else 0))
theorem b_X12_isKey (G : Mem) (x1 : Int32) : isB (f_X12_isKey G x1) = true := by
  unfold f_X12_isKey
  first | (repeat' split) <;> rfl
theorem kyX12_isKey : Ky yX12_isKey cX12_isKey 2 (some FieldType.boolean) 1 := ⟨u5_188, u1_15, by decide, by decide, by decide, by decide +kernel⟩
set_option maxHeartbeats 4000000 in
set_option maxRecDepth 100000 in
theorem c_X12_isKey (l : Launch) (D : va_G) (K : List Nat) (sh : Nat → Ent) (ad : Nat → Nat) (cy : Nat → ClassId) (X : va_W) (B : State → Prop) (hcl : Bcl (AS K ad X) B) (hE : ∀ q ∈ shM, q.1 ∈ K ∧ sh q.1 = q.2) (G : Mem) (L : MemL) (O : MemO) (x1 : Int32)  {vz : Int32} (hf : f_X12_isKey G x1 = vz) : Met l yX12_isKey (wsU yX12_isKey cX12_isKey 2 (some FieldType.boolean)) (rmX 1 0 0) (va_Pc [.ref (ad 0), .int x1] (PS D K sh ad cy X B G L O)) (QI (AS K ad X) (PH D K sh ad cy X G L O) vz) 0 0 (AS K ad X) := by
  refine s_met (by decide) (Nat.le_of_ble_eq_true rfl) ?_
  intro p e s m args below meth c ls H locs E hK hBs hnm hI hl
  have hl : lv_has ls 2 [(0, .ref (ad 0)), (1, .int x1)] := hl
  have E : Cx p s m args meth c RX12 cX12_isKey 2 (some FieldType.boolean) := E
  obtain ⟨hx, hb, hr, hml, hown, hu, hlocks⟩ := id E
  rw [f_X12_isKey] at hf
  refine lv_aload_n hx hb dX12_isKey_0 rfl (lv_at hl 0 rfl) ?_
  refine s_get (v := .int (G 0 21)) hx hb hu inU12 hown hK hI (mE hE eM_0) rfl 21 (by decide) u4_209 (fun _ h => h) rfl rfl dX12_isKey_1 ?_
  refine lv_if_ge (tgt := 27) hx hb dX12_isKey_4 (by decide) (fun c1 => ?_) (fun c1 => ?_)
  · have hf := ite_t c1 hf
    refine lv_iconst (v := 0) hx hb dX12_isKey_27 (by decide) ?_
    subst hf
    exact s_zret rfl hx hb hr hI.2.2 hI.1 hlocks dX12_isKey_28
  · have hf := ite_f c1 hf
    refine lv_aload_n hx hb dX12_isKey_7 rfl (lv_at hl 0 rfl) ?_
    refine s_get (v := .int (G 0 25)) hx hb hu inU12 hown hK hI (mE hE eM_0) rfl 25 (by decide) u4_213 (fun _ h => h) rfl rfl dX12_isKey_8 ?_
    refine lv_iconst (v := 1) hx hb dX12_isKey_11 (by decide) ?_
    refine lv_icmp_ne (tgt := 27) hx hb dX12_isKey_12 (by decide) (fun c2 => ?_) (fun c2 => ?_)
    · have hf := ite_f c2 hf
      refine lv_iconst (v := 0) hx hb dX12_isKey_27 (by decide) ?_
      subst hf
      exact s_zret rfl hx hb hr hI.2.2 hI.1 hlocks dX12_isKey_28
    · have hf := ite_t c2 hf
      refine lv_aload_n hx hb dX12_isKey_15 rfl (lv_at hl 0 rfl) ?_
      refine s_get (v := .int (G 0 26)) hx hb hu inU12 hown hK hI (mE hE eM_0) rfl 26 (by decide) u4_214 (fun _ h => h) rfl rfl dX12_isKey_16 ?_
      refine lv_iload_n hx hb dX12_isKey_19 rfl (lv_at hl 1 rfl) ?_
      refine lv_icmp_ne (tgt := 27) hx hb dX12_isKey_20 (by decide) (fun c3 => ?_) (fun c3 => ?_)
      · have hf := ite_f c3 hf
        refine lv_iconst (v := 0) hx hb dX12_isKey_27 (by decide) ?_
        subst hf
        exact s_zret rfl hx hb hr hI.2.2 hI.1 hlocks dX12_isKey_28
      · have hf := ite_t c3 hf
        refine lv_iconst (v := 1) hx hb dX12_isKey_23 (by decide) ?_
        refine lv_goto (tgt := 28) hx hb dX12_isKey_24 (by decide) ?_
        subst hf
        exact s_zret rfl hx hb hr hI.2.2 hI.1 hlocks dX12_isKey_28
noncomputable def f_X12_addStep (G : Mem) (x1 : Int32) (x2 : Int32) : Option (Mem) := chk (inB (1020 + (G 0 20)) 1190) (bnd (up2 G 11 (1020 + (G 0 20)).toNatClampNeg x1) (fun G2 => chk (inB (1020 + (G2 0 20)) 1190) (bnd (up2 G2 12 (1020 + (G2 0 20)).toNatClampNeg x2) (fun G4 => bnd (up2 G4 0 20 ((G4 0 20) + 1)) (fun G5 => some G5)))))
theorem kyX12_addStep : Ky yX12_addStep cX12_addStep 3 none 2 := ⟨u5_212, u1_15, by decide, by decide, by decide, by decide +kernel⟩
set_option maxHeartbeats 4000000 in
set_option maxRecDepth 100000 in
theorem c_X12_addStep (l : Launch) (D : va_G) (K : List Nat) (sh : Nat → Ent) (ad : Nat → Nat) (cy : Nat → ClassId) (X : va_W) (B : State → Prop) (hcl : Bcl (AS K ad X) B) (hE : ∀ q ∈ shM, q.1 ∈ K ∧ sh q.1 = q.2) (G : Mem) (L : MemL) (O : MemO) (x1 : Int32) (x2 : Int32) {Gz : Mem} (hf : f_X12_addStep G x1 x2 = some Gz) : Met l yX12_addStep (wsU yX12_addStep cX12_addStep 3 none) (rmX 1 0 0) (va_Pc [.ref (ad 0), .int x1, .int x2] (PS D K sh ad cy X B G L O)) (QV (AS K ad X) (PH D K sh ad cy X Gz L O)) 0 0 (AS K ad X) := by
  refine s_met (by decide) (Nat.le_of_ble_eq_true rfl) ?_
  intro p e s m args below meth c ls H locs E hK hBs hnm hI hl
  have hl : lv_has ls 3 [(0, .ref (ad 0)), (1, .int x1), (2, .int x2)] := hl
  have E : Cx p s m args meth c RX12 cX12_addStep 3 none := E
  obtain ⟨hx, hb, hr, hml, hown, hu, hlocks⟩ := id E
  rw [f_X12_addStep] at hf
  refine lv_aload_n hx hb dX12_addStep_0 rfl (lv_at hl 0 rfl) ?_
  refine s_get (v := .ref (ad 11)) hx hb hu inU12 hown hK hI (mE hE eM_0) rfl 17 (by decide) u4_205 (fun _ h => h) rfl rfl dX12_addStep_1 ?_
  refine lv_sipush (v := 1020) hx hb dX12_addStep_4 (by decide) ?_
  refine lv_aload_n hx hb dX12_addStep_7 rfl (lv_at hl 0 rfl) ?_
  refine s_get (v := .int (G 0 20)) hx hb hu inU12 hown hK hI (mE hE eM_0) rfl 20 (by decide) u4_208 (fun _ h => h) rfl rfl dX12_addStep_8 ?_
  refine lv_iadd hx hb dX12_addStep_11 ?_
  refine lv_iload_n hx hb dX12_addStep_12 rfl (lv_at hl 1 rfl) ?_
  obtain ⟨h1, hf⟩ := chk_i hf
  obtain ⟨G2, eG2, hf⟩ := bnd_i hf
  refine s_ist hx hb hK hI (mE hE eM_11) (inB_i h1) eG2 dX12_addStep_13 (fun H locs hI => ?_)
  refine lv_aload_n hx hb dX12_addStep_14 rfl (lv_at hl 0 rfl) ?_
  refine s_get (v := .ref (ad 12)) hx hb hu inU12 hown hK hI (mE hE eM_0) rfl 18 (by decide) u4_206 (fun _ h => h) rfl rfl dX12_addStep_15 ?_
  refine lv_sipush (v := 1020) hx hb dX12_addStep_18 (by decide) ?_
  refine lv_aload_n hx hb dX12_addStep_21 rfl (lv_at hl 0 rfl) ?_
  refine s_get (v := .int (G2 0 20)) hx hb hu inU12 hown hK hI (mE hE eM_0) rfl 20 (by decide) u4_208 (fun _ h => h) rfl rfl dX12_addStep_22 ?_
  refine lv_iadd hx hb dX12_addStep_25 ?_
  refine lv_iload_n hx hb dX12_addStep_26 rfl (lv_at hl 2 rfl) ?_
  obtain ⟨h3, hf⟩ := chk_i hf
  obtain ⟨G4, eG4, hf⟩ := bnd_i hf
  refine s_ist hx hb hK hI (mE hE eM_12) (inB_i h3) eG4 dX12_addStep_27 (fun H locs hI => ?_)
  refine lv_aload_n hx hb dX12_addStep_28 rfl (lv_at hl 0 rfl) ?_
  refine lv_dup hx hb dX12_addStep_29 rfl ?_
  refine s_get (v := .int (G4 0 20)) hx hb hu inU12 hown hK hI (mE hE eM_0) rfl 20 (by decide) u4_208 (fun _ h => h) rfl rfl dX12_addStep_30 ?_
  refine lv_iconst (v := 1) hx hb dX12_addStep_33 (by decide) ?_
  refine lv_iadd hx hb dX12_addStep_34 ?_
  obtain ⟨G5, eG5, hf⟩ := bnd_i hf
  refine s_put (ty := .int) hx hb hu inU12 tyX12_ok nmX12 hown hK hI (mE hE eM_0) rfl 20 (by decide) u4_208 (fun _ h => h) rfl rfl (tyX12_ok 20 (by decide)) rfl rfl eG5 dX12_addStep_35 (fun H locs hI => ?_)
  cases hf
  exact s_vret hx hb hr hI.2.2 hI.1 hlocks dX12_addStep_38
noncomputable def f_X12_opens (G : Mem)  : Option (Mem × Int32) := (if (G 0 22) = 5 then bndO (f_X12_faulty G) (fun G5 => some (G5, 0)) else bnd (up2 G 0 22 ((G 0 22) + 1)) (fun G2 => bndO (f_X12_next G2) (fun G3 => some (G3, 1))))
theorem kyX12_opens : Ky yX12_opens cX12_opens 1 (some FieldType.boolean) 0 := ⟨u5_208, u1_15, by decide, by decide, by decide, by decide +kernel⟩
set_option maxHeartbeats 4000000 in
set_option maxRecDepth 100000 in
theorem c_X12_opens (l : Launch) (D : va_G) (K : List Nat) (sh : Nat → Ent) (ad : Nat → Nat) (cy : Nat → ClassId) (X : va_W) (B : State → Prop) (hcl : Bcl (AS K ad X) B) (hE : ∀ q ∈ shM, q.1 ∈ K ∧ sh q.1 = q.2) (G : Mem) (L : MemL) (O : MemO)  {Gz : Mem} {vz : Int32} (hf : f_X12_opens G = some (Gz, vz)) : Met l yX12_opens (wsU yX12_opens cX12_opens 1 (some FieldType.boolean)) (rmX 4 0 0) (va_Pc [.ref (ad 0)] (PS D K sh ad cy X B G L O)) (QI (AS K ad X) (PH D K sh ad cy X Gz L O) vz) 0 0 (AS K ad X) := by
  refine s_met (by decide) (Nat.le_of_ble_eq_true rfl) ?_
  intro p e s m args below meth c ls H locs E hK hBs hnm hI hl
  have hl : lv_has ls 1 [(0, .ref (ad 0))] := hl
  have E : Cx p s m args meth c RX12 cX12_opens 1 (some FieldType.boolean) := E
  obtain ⟨hx, hb, hr, hml, hown, hu, hlocks⟩ := id E
  rw [f_X12_opens] at hf
  refine lv_aload_n hx hb dX12_opens_0 rfl (lv_at hl 0 rfl) ?_
  refine s_get (v := .int (G 0 22)) hx hb hu inU12 hown hK hI (mE hE eM_0) rfl 22 (by decide) u4_210 (fun _ h => h) rfl rfl dX12_opens_1 ?_
  refine lv_iconst (v := 5) hx hb dX12_opens_4 (by decide) ?_
  refine lv_icmp_ne (tgt := 14) hx hb dX12_opens_5 (by decide) (fun c1 => ?_) (fun c1 => ?_)
  · have hf := ite_f c1 hf
    refine lv_aload_n hx hb dX12_opens_14 rfl (lv_at hl 0 rfl) ?_
    refine lv_dup hx hb dX12_opens_15 rfl ?_
    refine s_get (v := .int (G 0 22)) hx hb hu inU12 hown hK hI (mE hE eM_0) rfl 22 (by decide) u4_210 (fun _ h => h) rfl rfl dX12_opens_16 ?_
    refine lv_iconst (v := 1) hx hb dX12_opens_19 (by decide) ?_
    refine lv_iadd hx hb dX12_opens_20 ?_
    obtain ⟨G2, eG2, hf⟩ := bnd_i hf
    refine s_put (ty := .int) hx hb hu inU12 tyX12_ok nmX12 hown hK hI (mE hE eM_0) rfl 22 (by decide) u4_210 (fun _ h => h) rfl rfl (tyX12_ok 22 (by decide)) rfl rfl eG2 dX12_opens_21 (fun H locs hI => ?_)
    refine lv_aload_n hx hb dX12_opens_24 rfl (lv_at hl 0 rfl) ?_
    obtain ⟨G3, h4, hf⟩ := bndO_i hf
    refine s_afV hI (s_runV (rest := []) (As := []) (np := 0) E hK hI (s_B hcl hBs hI) hcl.2 (mE hE eM_0) rfl (c_X12_next l D K sh ad cy X B hcl hE G2 L O  h4) kyX12_next u5_167 u5_169 up_29 (by decide) rfl hl.1 rfl (Nat.le_of_ble_eq_true rfl) ⟨Nat.zero_le _, Nat.zero_le _⟩ dX12_opens_25) (fun H locs hI => ?_)
    refine lv_iconst (v := 1) hx hb dX12_opens_28 (by decide) ?_
    cases hf
    exact s_zret rfl hx hb hr hI.2.2 hI.1 hlocks dX12_opens_29
  · have hf := ite_t c1 hf
    refine lv_aload_n hx hb dX12_opens_8 rfl (lv_at hl 0 rfl) ?_
    obtain ⟨G5, h6, hf⟩ := bndO_i hf
    refine s_afV hI (s_runV (rest := []) (As := []) (np := 0) E hK hI (s_B hcl hBs hI) hcl.2 (mE hE eM_0) rfl (c_X12_faulty l D K sh ad cy X B hcl hE G L O  h6) kyX12_faulty u5_189 u5_191 up_33 (by decide) rfl hl.1 rfl (Nat.le_of_ble_eq_true rfl) ⟨Nat.zero_le _, Nat.zero_le _⟩ dX12_opens_9) (fun H locs hI => ?_)
    refine lv_iconst (v := 0) hx hb dX12_opens_12 (by decide) ?_
    cases hf
    exact s_zret rfl hx hb hr hI.2.2 hI.1 hlocks dX12_opens_13
