noncomputable def f_X11_outside  (x0 : Int32) (x1 : Int32) : Int32 := (if x0 < 0 then 1 else (if x0 < x1 then 0 else 1))
theorem b_X11_outside (x0 : Int32) (x1 : Int32) : isB (f_X11_outside x0 x1) = true := by
  unfold f_X11_outside
  first | (repeat' split) <;> rfl
theorem kyX11_outside : Ky yX11_outside cX11_outside 2 (some FieldType.boolean) 2 := ⟨u2_221, u1_1, by decide, by decide, by decide, by decide +kernel⟩
set_option maxHeartbeats 4000000 in
set_option maxRecDepth 100000 in
theorem c_X11_outside (l : Launch) (x0 : Int32) (x1 : Int32)  {vz : Int32} (hf : f_X11_outside x0 x1 = vz) : Met l yX11_outside (wsU yX11_outside cX11_outside 2 (some FieldType.boolean)) (rmX 1 0 0) (va_Pc [.int x0, .int x1] (fun _ => True)) (QP vz) 0 0 noA := by
  refine s_met0 (by decide) (Nat.le_of_ble_eq_true rfl) ?_
  intro p e s m args below meth c ls E hl
  have hl : lv_has ls 2 [(0, .int x0), (1, .int x1)] := hl
  have E : Cx p s m args meth c RX11 cX11_outside 2 (some FieldType.boolean) := E
  obtain ⟨hx, hb, hr, hml, hown, hu, hlocks⟩ := id E
  rw [f_X11_outside] at hf
  refine lv_iload_n hx hb dX11_outside_0 rfl (lv_at hl 0 rfl) ?_
  refine lv_if_lt (tgt := 9) hx hb dX11_outside_1 (by decide) (fun c1 => ?_) (fun c1 => ?_)
  · have hf := ite_t c1 hf
    refine lv_iconst (v := 1) hx hb dX11_outside_9 (by decide) ?_
    refine lv_goto (tgt := 14) hx hb dX11_outside_10 (by decide) ?_
    subst hf
    exact s_iretP rfl E dX11_outside_14
  · have hf := ite_f c1 hf
    refine lv_iload_n hx hb dX11_outside_4 rfl (lv_at hl 0 rfl) ?_
    refine lv_iload_n hx hb dX11_outside_5 rfl (lv_at hl 1 rfl) ?_
    refine lv_icmp_lt (tgt := 13) hx hb dX11_outside_6 (by decide) (fun c2 => ?_) (fun c2 => ?_)
    · have hf := ite_t c2 hf
      refine lv_iconst (v := 0) hx hb dX11_outside_13 (by decide) ?_
      subst hf
      exact s_iretP rfl E dX11_outside_14
    · have hf := ite_f c2 hf
      refine lv_iconst (v := 1) hx hb dX11_outside_9 (by decide) ?_
      refine lv_goto (tgt := 14) hx hb dX11_outside_10 (by decide) ?_
      subst hf
      exact s_iretP rfl E dX11_outside_14
noncomputable def f_X11_truth  (x0 : Int32) : Int32 := (if x0 = 0 then 0 else 1)
theorem kyX11_truth : Ky yX11_truth cX11_truth 1 (some FieldType.int) 1 := ⟨u3_139, u1_1, by decide, by decide, by decide, by decide +kernel⟩
set_option maxHeartbeats 4000000 in
set_option maxRecDepth 100000 in
theorem c_X11_truth (l : Launch) (x0 : Int32)  {vz : Int32} (hf : f_X11_truth x0 = vz) : Met l yX11_truth (wsU yX11_truth cX11_truth 1 (some FieldType.int)) (rmX 1 0 0) (va_Pc [.int x0] (fun _ => True)) (QP vz) 0 0 noA := by
  refine s_met0 (by decide) (Nat.le_of_ble_eq_true rfl) ?_
  intro p e s m args below meth c ls E hl
  have hl : lv_has ls 1 [(0, .int x0)] := hl
  have E : Cx p s m args meth c RX11 cX11_truth 1 (some FieldType.int) := E
  obtain ⟨hx, hb, hr, hml, hown, hu, hlocks⟩ := id E
  rw [f_X11_truth] at hf
  refine lv_iload_n hx hb dX11_truth_0 rfl (lv_at hl 0 rfl) ?_
  refine lv_if_eq (tgt := 8) hx hb dX11_truth_1 (by decide) (fun c1 => ?_) (fun c1 => ?_)
  · have hf := ite_t c1 hf
    refine lv_iconst (v := 0) hx hb dX11_truth_8 (by decide) ?_
    subst hf
    exact s_iretP rfl E dX11_truth_9
  · have hf := ite_f c1 hf
    refine lv_iconst (v := 1) hx hb dX11_truth_4 (by decide) ?_
    refine lv_goto (tgt := 9) hx hb dX11_truth_5 (by decide) ?_
    subst hf
    exact s_iretP rfl E dX11_truth_9
noncomputable def f_X11_isPlan  (x0 : Int32) : Int32 := (if x0 < 2 then 0 else (if 6 ≤ x0 then 0 else 1))
theorem b_X11_isPlan (x0 : Int32) : isB (f_X11_isPlan x0) = true := by
  unfold f_X11_isPlan
  first | (repeat' split) <;> rfl
theorem kyX11_isPlan : Ky yX11_isPlan cX11_isPlan 1 (some FieldType.boolean) 1 := ⟨u3_185, u1_1, by decide, by decide, by decide, by decide +kernel⟩
set_option maxHeartbeats 4000000 in
set_option maxRecDepth 100000 in
theorem c_X11_isPlan (l : Launch) (x0 : Int32)  {vz : Int32} (hf : f_X11_isPlan x0 = vz) : Met l yX11_isPlan (wsU yX11_isPlan cX11_isPlan 1 (some FieldType.boolean)) (rmX 1 0 0) (va_Pc [.int x0] (fun _ => True)) (QP vz) 0 0 noA := by
  refine s_met0 (by decide) (Nat.le_of_ble_eq_true rfl) ?_
  intro p e s m args below meth c ls E hl
  have hl : lv_has ls 1 [(0, .int x0)] := hl
  have E : Cx p s m args meth c RX11 cX11_isPlan 1 (some FieldType.boolean) := E
  obtain ⟨hx, hb, hr, hml, hown, hu, hlocks⟩ := id E
  rw [f_X11_isPlan] at hf
  refine lv_iload_n hx hb dX11_isPlan_0 rfl (lv_at hl 0 rfl) ?_
  refine lv_iconst (v := 2) hx hb dX11_isPlan_1 (by decide) ?_
  refine lv_icmp_lt (tgt := 15) hx hb dX11_isPlan_2 (by decide) (fun c1 => ?_) (fun c1 => ?_)
  · have hf := ite_t c1 hf
    refine lv_iconst (v := 0) hx hb dX11_isPlan_15 (by decide) ?_
    subst hf
    exact s_iretP rfl E dX11_isPlan_16
  · have hf := ite_f c1 hf
    refine lv_iload_n hx hb dX11_isPlan_5 rfl (lv_at hl 0 rfl) ?_
    refine lv_bipush (v := 6) hx hb dX11_isPlan_6 (by decide) ?_
    refine lv_icmp_ge (tgt := 15) hx hb dX11_isPlan_8 (by decide) (fun c2 => ?_) (fun c2 => ?_)
    · have hf := ite_t c2 hf
      refine lv_iconst (v := 0) hx hb dX11_isPlan_15 (by decide) ?_
      subst hf
      exact s_iretP rfl E dX11_isPlan_16
    · have hf := ite_f c2 hf
      refine lv_iconst (v := 1) hx hb dX11_isPlan_11 (by decide) ?_
      refine lv_goto (tgt := 16) hx hb dX11_isPlan_12 (by decide) ?_
      subst hf
      exact s_iretP rfl E dX11_isPlan_16
noncomputable def f_X7_kind  (e0 : Nat) : Int32 := 0
theorem kyX7_kind : Ky yX7_kind cX7_kind 1 (some FieldType.int) 0 := ⟨u3_87, u1_16, by decide, by decide, by decide, by decide +kernel⟩
set_option maxHeartbeats 4000000 in
set_option maxRecDepth 100000 in
theorem c_X7_kind (l : Launch) (D : va_G) (K : List Nat) (sh : Nat → Ent) (ad : Nat → Nat) (cy : Nat → ClassId) (X : va_W) (B : State → Prop) (hcl : Bcl (AS K ad X) B) (S : Nat → Nat) (e0 : Nat) (he0 : SgH S K sh e0) (G : Mem) (L : MemL) (O : MemO)   {vz : Int32} (hf : f_X7_kind e0 = vz) : Met l yX7_kind (wsU yX7_kind cX7_kind 1 (some FieldType.int)) (rmX 1 0 0) (va_Pc [.ref (ad e0)] (PS D K sh ad cy X B G L O)) (QI (AS K ad X) (PH D K sh ad cy X G L O) vz) 0 0 (AS K ad X) := by
  refine s_met (by decide) (Nat.le_of_ble_eq_true rfl) ?_
  intro p e s m args below meth c ls H locs E hK hBs hnm hI hl
  have hl : lv_has ls 1 [(0, .ref (ad e0))] := hl
  have E : Cx p s m args meth c RX7 cX7_kind 1 (some FieldType.int) := E
  obtain ⟨hx, hb, hr, hml, hown, hu, hlocks⟩ := id E
  rw [f_X7_kind] at hf
  refine lv_iconst (v := 0) hx hb dX7_kind_0 (by decide) ?_
  subst hf
  exact s_iret hx hb hr hI.2.2 hI.1 hlocks dX7_kind_1
noncomputable def f_X7_reach (G : Mem) (e0 : Nat) (x1 : Int32) (x2 : Int32) : Int32 := ((G e0 0) - x1)
theorem kyX7_reach : Ky yX7_reach cX7_reach 3 (some FieldType.int) 2 := ⟨u3_122, u1_16, by decide, by decide, by decide, by decide +kernel⟩
set_option maxHeartbeats 4000000 in
set_option maxRecDepth 100000 in
theorem c_X7_reach (l : Launch) (D : va_G) (K : List Nat) (sh : Nat → Ent) (ad : Nat → Nat) (cy : Nat → ClassId) (X : va_W) (B : State → Prop) (hcl : Bcl (AS K ad X) B) (S : Nat → Nat) (e0 : Nat) (he0 : SgH S K sh e0) (G : Mem) (L : MemL) (O : MemO) (x1 : Int32) (x2 : Int32)  {vz : Int32} (hf : f_X7_reach G e0 x1 x2 = vz) : Met l yX7_reach (wsU yX7_reach cX7_reach 3 (some FieldType.int)) (rmX 1 0 0) (va_Pc [.ref (ad e0), .int x1, .int x2] (PS D K sh ad cy X B G L O)) (QI (AS K ad X) (PH D K sh ad cy X G L O) vz) 0 0 (AS K ad X) := by
  refine s_met (by decide) (Nat.le_of_ble_eq_true rfl) ?_
  intro p e s m args below meth c ls H locs E hK hBs hnm hI hl
  have hl : lv_has ls 3 [(0, .ref (ad e0)), (1, .int x1), (2, .int x2)] := hl
  have E : Cx p s m args meth c RX7 cX7_reach 3 (some FieldType.int) := E
  obtain ⟨hx, hb, hr, hml, hown, hu, hlocks⟩ := id E
  rw [f_X7_reach] at hf
  refine lv_aload_n hx hb dX7_reach_0 rfl (lv_at hl 0 rfl) ?_
  refine s_getSg hx hb hu hown hK hI (he0) 0 (by decide) u2_238 (fun _ h => h) dX7_reach_1 ?_
  refine lv_iload_n hx hb dX7_reach_4 rfl (lv_at hl 1 rfl) ?_
  refine lv_isub hx hb dX7_reach_5 ?_
  subst hf
  exact s_iret hx hb hr hI.2.2 hI.1 hlocks dX7_reach_6
noncomputable def f_X7_silentSteps (G : Mem) (e0 : Nat) (x1 : Int32) : Int32 := (G e0 1)
theorem kyX7_silentSteps : Ky yX7_silentSteps cX7_silentSteps 2 (some FieldType.int) 1 := ⟨u3_142, u1_16, by decide, by decide, by decide, by decide +kernel⟩
set_option maxHeartbeats 4000000 in
set_option maxRecDepth 100000 in
theorem c_X7_silentSteps (l : Launch) (D : va_G) (K : List Nat) (sh : Nat → Ent) (ad : Nat → Nat) (cy : Nat → ClassId) (X : va_W) (B : State → Prop) (hcl : Bcl (AS K ad X) B) (S : Nat → Nat) (e0 : Nat) (he0 : SgH S K sh e0) (G : Mem) (L : MemL) (O : MemO) (x1 : Int32)  {vz : Int32} (hf : f_X7_silentSteps G e0 x1 = vz) : Met l yX7_silentSteps (wsU yX7_silentSteps cX7_silentSteps 2 (some FieldType.int)) (rmX 1 0 0) (va_Pc [.ref (ad e0), .int x1] (PS D K sh ad cy X B G L O)) (QI (AS K ad X) (PH D K sh ad cy X G L O) vz) 0 0 (AS K ad X) := by
  refine s_met (by decide) (Nat.le_of_ble_eq_true rfl) ?_
  intro p e s m args below meth c ls H locs E hK hBs hnm hI hl
  have hl : lv_has ls 2 [(0, .ref (ad e0)), (1, .int x1)] := hl
  have E : Cx p s m args meth c RX7 cX7_silentSteps 2 (some FieldType.int) := E
  obtain ⟨hx, hb, hr, hml, hown, hu, hlocks⟩ := id E
  rw [f_X7_silentSteps] at hf
  refine lv_aload_n hx hb dX7_silentSteps_0 rfl (lv_at hl 0 rfl) ?_
  refine s_getSg hx hb hu hown hK hI (he0) 1 (by decide) u3_0 (fun _ h => h) dX7_silentSteps_1 ?_
  subst hf
  exact s_iret hx hb hr hI.2.2 hI.1 hlocks dX7_silentSteps_4
noncomputable def f_X7_says (G : Mem) (e0 : Nat) (x1 : Int32) : Int32 := (if ((G e0 2) - (G e0 2) / 2 * 2) = 0 then 1 else 0)
theorem b_X7_says (G : Mem) (e0 : Nat) (x1 : Int32) : isB (f_X7_says G e0 x1) = true := by
  unfold f_X7_says
  first | (repeat' split) <;> rfl
theorem kyX7_says : Ky yX7_says cX7_says 2 (some FieldType.boolean) 1 := ⟨u3_161, u1_16, by decide, by decide, by decide, by decide +kernel⟩
set_option maxHeartbeats 4000000 in
set_option maxRecDepth 100000 in
theorem c_X7_says (l : Launch) (D : va_G) (K : List Nat) (sh : Nat → Ent) (ad : Nat → Nat) (cy : Nat → ClassId) (X : va_W) (B : State → Prop) (hcl : Bcl (AS K ad X) B) (S : Nat → Nat) (e0 : Nat) (he0 : SgH S K sh e0) (G : Mem) (L : MemL) (O : MemO) (x1 : Int32)  {vz : Int32} (hf : f_X7_says G e0 x1 = vz) : Met l yX7_says (wsU yX7_says cX7_says 2 (some FieldType.boolean)) (rmX 1 0 0) (va_Pc [.ref (ad e0), .int x1] (PS D K sh ad cy X B G L O)) (QI (AS K ad X) (PH D K sh ad cy X G L O) vz) 0 0 (AS K ad X) := by
  refine s_met (by decide) (Nat.le_of_ble_eq_true rfl) ?_
  intro p e s m args below meth c ls H locs E hK hBs hnm hI hl
  have hl : lv_has ls 2 [(0, .ref (ad e0)), (1, .int x1)] := hl
  have E : Cx p s m args meth c RX7 cX7_says 2 (some FieldType.boolean) := E
  obtain ⟨hx, hb, hr, hml, hown, hu, hlocks⟩ := id E
  rw [f_X7_says] at hf
  refine lv_aload_n hx hb dX7_says_0 rfl (lv_at hl 0 rfl) ?_
  refine s_getSg hx hb hu hown hK hI (he0) 2 (by decide) u3_1 (fun _ h => h) dX7_says_1 ?_
  refine lv_iconst (v := 2) hx hb dX7_says_4 (by decide) ?_
  refine lv_irem hx hb dX7_says_5 (by decide) ?_
  refine lv_if_ne (tgt := 13) hx hb dX7_says_6 (by decide) (fun c1 => ?_) (fun c1 => ?_)
  · have hf := ite_f c1 hf
    refine lv_iconst (v := 0) hx hb dX7_says_13 (by decide) ?_
    subst hf
    exact s_zret rfl hx hb hr hI.2.2 hI.1 hlocks dX7_says_14
  · have hf := ite_t c1 hf
    refine lv_iconst (v := 1) hx hb dX7_says_9 (by decide) ?_
    refine lv_goto (tgt := 14) hx hb dX7_says_10 (by decide) ?_
    subst hf
    exact s_zret rfl hx hb hr hI.2.2 hI.1 hlocks dX7_says_14
noncomputable def f_X7_isUnder  (e0 : Nat) (x1 : Int32) : Int32 := (if x1 = 0 then 1 else 0)
theorem b_X7_isUnder (e0 : Nat) (x1 : Int32) : isB (f_X7_isUnder e0 x1) = true := by
  unfold f_X7_isUnder
  first | (repeat' split) <;> rfl
theorem kyX7_isUnder : Ky yX7_isUnder cX7_isUnder 2 (some FieldType.boolean) 1 := ⟨u4_182, u1_16, by decide, by decide, by decide, by decide +kernel⟩
set_option maxHeartbeats 4000000 in
set_option maxRecDepth 100000 in
theorem c_X7_isUnder (l : Launch) (D : va_G) (K : List Nat) (sh : Nat → Ent) (ad : Nat → Nat) (cy : Nat → ClassId) (X : va_W) (B : State → Prop) (hcl : Bcl (AS K ad X) B) (S : Nat → Nat) (e0 : Nat) (he0 : SgH S K sh e0) (G : Mem) (L : MemL) (O : MemO) (x1 : Int32)  {vz : Int32} (hf : f_X7_isUnder e0 x1 = vz) : Met l yX7_isUnder (wsU yX7_isUnder cX7_isUnder 2 (some FieldType.boolean)) (rmX 1 0 0) (va_Pc [.ref (ad e0), .int x1] (PS D K sh ad cy X B G L O)) (QI (AS K ad X) (PH D K sh ad cy X G L O) vz) 0 0 (AS K ad X) := by
  refine s_met (by decide) (Nat.le_of_ble_eq_true rfl) ?_
  intro p e s m args below meth c ls H locs E hK hBs hnm hI hl
  have hl : lv_has ls 2 [(0, .ref (ad e0)), (1, .int x1)] := hl
  have E : Cx p s m args meth c RX7 cX7_isUnder 2 (some FieldType.boolean) := E
  obtain ⟨hx, hb, hr, hml, hown, hu, hlocks⟩ := id E
  rw [f_X7_isUnder] at hf
  refine lv_iload_n hx hb dX7_isUnder_0 rfl (lv_at hl 1 rfl) ?_
  refine lv_if_ne (tgt := 8) hx hb dX7_isUnder_1 (by decide) (fun c1 => ?_) (fun c1 => ?_)
  · have hf := ite_f c1 hf
    refine lv_iconst (v := 0) hx hb dX7_isUnder_8 (by decide) ?_
    subst hf
    exact s_zret rfl hx hb hr hI.2.2 hI.1 hlocks dX7_isUnder_9
  · have hf := ite_t c1 hf
    refine lv_iconst (v := 1) hx hb dX7_isUnder_4 (by decide) ?_
    refine lv_goto (tgt := 9) hx hb dX7_isUnder_5 (by decide) ?_
    subst hf
    exact s_zret rfl hx hb hr hI.2.2 hI.1 hlocks dX7_isUnder_9
noncomputable def f_X8_kind  (e0 : Nat) : Int32 := 1
theorem kyX8_kind : Ky yX8_kind cX8_kind 1 (some FieldType.int) 0 := ⟨u3_83, u1_17, by decide, by decide, by decide, by decide +kernel⟩
set_option maxHeartbeats 4000000 in
set_option maxRecDepth 100000 in
theorem c_X8_kind (l : Launch) (D : va_G) (K : List Nat) (sh : Nat → Ent) (ad : Nat → Nat) (cy : Nat → ClassId) (X : va_W) (B : State → Prop) (hcl : Bcl (AS K ad X) B) (S : Nat → Nat) (e0 : Nat) (he0 : SgH S K sh e0) (G : Mem) (L : MemL) (O : MemO)   {vz : Int32} (hf : f_X8_kind e0 = vz) : Met l yX8_kind (wsU yX8_kind cX8_kind 1 (some FieldType.int)) (rmX 1 0 0) (va_Pc [.ref (ad e0)] (PS D K sh ad cy X B G L O)) (QI (AS K ad X) (PH D K sh ad cy X G L O) vz) 0 0 (AS K ad X) := by
  refine s_met (by decide) (Nat.le_of_ble_eq_true rfl) ?_
  intro p e s m args below meth c ls H locs E hK hBs hnm hI hl
  have hl : lv_has ls 1 [(0, .ref (ad e0))] := hl
  have E : Cx p s m args meth c RX8 cX8_kind 1 (some FieldType.int) := E
  obtain ⟨hx, hb, hr, hml, hown, hu, hlocks⟩ := id E
  rw [f_X8_kind] at hf
  refine lv_iconst (v := 1) hx hb dX8_kind_0 (by decide) ?_
  subst hf
  exact s_iret hx hb hr hI.2.2 hI.1 hlocks dX8_kind_1
noncomputable def f_X8_reach (G : Mem) (e0 : Nat) (x1 : Int32) (x2 : Int32) : Int32 := ((f_X7_reach G e0 x1 x2) + (x1 / 2))
theorem kyX8_reach : Ky yX8_reach cX8_reach 3 (some FieldType.int) 2 := ⟨u3_111, u1_17, by decide, by decide, by decide, by decide +kernel⟩
set_option maxHeartbeats 4000000 in
set_option maxRecDepth 100000 in
theorem c_X8_reach (l : Launch) (D : va_G) (K : List Nat) (sh : Nat → Ent) (ad : Nat → Nat) (cy : Nat → ClassId) (X : va_W) (B : State → Prop) (hcl : Bcl (AS K ad X) B) (S : Nat → Nat) (e0 : Nat) (he0 : SgH S K sh e0) (G : Mem) (L : MemL) (O : MemO) (x1 : Int32) (x2 : Int32)  {vz : Int32} (hf : f_X8_reach G e0 x1 x2 = vz) : Met l yX8_reach (wsU yX8_reach cX8_reach 3 (some FieldType.int)) (rmX 2 0 0) (va_Pc [.ref (ad e0), .int x1, .int x2] (PS D K sh ad cy X B G L O)) (QI (AS K ad X) (PH D K sh ad cy X G L O) vz) 0 0 (AS K ad X) := by
  refine s_met (by decide) (Nat.le_of_ble_eq_true rfl) ?_
  intro p e s m args below meth c ls H locs E hK hBs hnm hI hl
  have hl : lv_has ls 3 [(0, .ref (ad e0)), (1, .int x1), (2, .int x2)] := hl
  have E : Cx p s m args meth c RX8 cX8_reach 3 (some FieldType.int) := E
  obtain ⟨hx, hb, hr, hml, hown, hu, hlocks⟩ := id E
  rw [f_X8_reach] at hf
  refine lv_aload_n hx hb dX8_reach_0 rfl (lv_at hl 0 rfl) ?_
  refine lv_iload_n hx hb dX8_reach_1 rfl (lv_at hl 1 rfl) ?_
  refine lv_iload_n hx hb dX8_reach_2 rfl (lv_at hl 2 rfl) ?_
  refine s_afI hI (s_runSU (rest := []) (As := [.int x1, .int x2]) (np := 2) E hK hI (s_B hcl hBs hI) hcl.2 he0 (c_X7_reach l D K sh ad cy X B hcl S e0 he0 G L O x1 x2 rfl) kyX7_reach (by decide) u3_112 u3_101 u3_13 u3_99 (by decide) rfl hl.1 rfl (Nat.le_of_ble_eq_true rfl) ⟨Nat.zero_le _, Nat.zero_le _⟩ dX8_reach_3) (fun H locs hI => ?_)
  refine lv_iload_n hx hb dX8_reach_6 rfl (lv_at hl 1 rfl) ?_
  refine lv_iconst (v := 2) hx hb dX8_reach_7 (by decide) ?_
  refine lv_idiv hx hb dX8_reach_8 (by decide) ?_
  refine lv_iadd hx hb dX8_reach_9 ?_
  subst hf
  exact s_iret hx hb hr hI.2.2 hI.1 hlocks dX8_reach_10
noncomputable def f_X8_says  (e0 : Nat) (x1 : Int32) : Int32 := 0
theorem b_X8_says (e0 : Nat) (x1 : Int32) : isB (f_X8_says e0 x1) = true := by
  unfold f_X8_says
  first | (repeat' split) <;> rfl
theorem kyX8_says : Ky yX8_says cX8_says 2 (some FieldType.boolean) 1 := ⟨u3_152, u1_17, by decide, by decide, by decide, by decide +kernel⟩
set_option maxHeartbeats 4000000 in
set_option maxRecDepth 100000 in
theorem c_X8_says (l : Launch) (D : va_G) (K : List Nat) (sh : Nat → Ent) (ad : Nat → Nat) (cy : Nat → ClassId) (X : va_W) (B : State → Prop) (hcl : Bcl (AS K ad X) B) (S : Nat → Nat) (e0 : Nat) (he0 : SgH S K sh e0) (G : Mem) (L : MemL) (O : MemO) (x1 : Int32)  {vz : Int32} (hf : f_X8_says e0 x1 = vz) : Met l yX8_says (wsU yX8_says cX8_says 2 (some FieldType.boolean)) (rmX 1 0 0) (va_Pc [.ref (ad e0), .int x1] (PS D K sh ad cy X B G L O)) (QI (AS K ad X) (PH D K sh ad cy X G L O) vz) 0 0 (AS K ad X) := by
  refine s_met (by decide) (Nat.le_of_ble_eq_true rfl) ?_
  intro p e s m args below meth c ls H locs E hK hBs hnm hI hl
  have hl : lv_has ls 2 [(0, .ref (ad e0)), (1, .int x1)] := hl
  have E : Cx p s m args meth c RX8 cX8_says 2 (some FieldType.boolean) := E
  obtain ⟨hx, hb, hr, hml, hown, hu, hlocks⟩ := id E
  rw [f_X8_says] at hf
  refine lv_iconst (v := 0) hx hb dX8_says_0 (by decide) ?_
  subst hf
  exact s_zret rfl hx hb hr hI.2.2 hI.1 hlocks dX8_says_1
noncomputable def f_X8_isUnder  (e0 : Nat) (x1 : Int32) : Int32 := (if x1 = 1 then 1 else (if (f_X7_isUnder e0 x1) = 0 then 0 else 1))
theorem b_X8_isUnder (e0 : Nat) (x1 : Int32) : isB (f_X8_isUnder e0 x1) = true := by
  unfold f_X8_isUnder
  first | (repeat' split) <;> rfl | (repeat' split) <;> first | rfl | exact (b_X7_isUnder e0 x1)
theorem kyX8_isUnder : Ky yX8_isUnder cX8_isUnder 2 (some FieldType.boolean) 1 := ⟨u4_171, u1_17, by decide, by decide, by decide, by decide +kernel⟩
set_option maxHeartbeats 4000000 in
set_option maxRecDepth 100000 in
theorem c_X8_isUnder (l : Launch) (D : va_G) (K : List Nat) (sh : Nat → Ent) (ad : Nat → Nat) (cy : Nat → ClassId) (X : va_W) (B : State → Prop) (hcl : Bcl (AS K ad X) B) (S : Nat → Nat) (e0 : Nat) (he0 : SgH S K sh e0) (G : Mem) (L : MemL) (O : MemO) (x1 : Int32)  {vz : Int32} (hf : f_X8_isUnder e0 x1 = vz) : Met l yX8_isUnder (wsU yX8_isUnder cX8_isUnder 2 (some FieldType.boolean)) (rmX 2 0 0) (va_Pc [.ref (ad e0), .int x1] (PS D K sh ad cy X B G L O)) (QI (AS K ad X) (PH D K sh ad cy X G L O) vz) 0 0 (AS K ad X) := by
  refine s_met (by decide) (Nat.le_of_ble_eq_true rfl) ?_
  intro p e s m args below meth c ls H locs E hK hBs hnm hI hl
  have hl : lv_has ls 2 [(0, .ref (ad e0)), (1, .int x1)] := hl
  have E : Cx p s m args meth c RX8 cX8_isUnder 2 (some FieldType.boolean) := E
  obtain ⟨hx, hb, hr, hml, hown, hu, hlocks⟩ := id E
  rw [f_X8_isUnder] at hf
  refine lv_iload_n hx hb dX8_isUnder_0 rfl (lv_at hl 1 rfl) ?_
  refine lv_iconst (v := 1) hx hb dX8_isUnder_1 (by decide) ?_
  refine lv_icmp_eq (tgt := 13) hx hb dX8_isUnder_2 (by decide) (fun c1 => ?_) (fun c1 => ?_)
  · have hf := ite_t c1 hf
    refine lv_iconst (v := 1) hx hb dX8_isUnder_13 (by decide) ?_
    refine lv_goto (tgt := 18) hx hb dX8_isUnder_14 (by decide) ?_
    subst hf
    exact s_zret rfl hx hb hr hI.2.2 hI.1 hlocks dX8_isUnder_18
  · have hf := ite_f c1 hf
    refine lv_aload_n hx hb dX8_isUnder_5 rfl (lv_at hl 0 rfl) ?_
    refine lv_iload_n hx hb dX8_isUnder_6 rfl (lv_at hl 1 rfl) ?_
    refine s_afI hI (s_runSU (rest := []) (As := [.int x1]) (np := 1) E hK hI (s_B hcl hBs hI) hcl.2 he0 (c_X7_isUnder l D K sh ad cy X B hcl S e0 he0 G L O x1 rfl) kyX7_isUnder (by decide) u4_172 u4_161 u3_13 u4_159 (by decide) rfl hl.1 rfl (Nat.le_of_ble_eq_true rfl) ⟨Nat.zero_le _, Nat.zero_le _⟩ dX8_isUnder_7) (fun H locs hI => ?_)
    refine lv_if_eq (tgt := 17) hx hb dX8_isUnder_10 (by decide) (fun c2 => ?_) (fun c2 => ?_)
    · have hf := ite_t c2 hf
      refine lv_iconst (v := 0) hx hb dX8_isUnder_17 (by decide) ?_
      subst hf
      exact s_zret rfl hx hb hr hI.2.2 hI.1 hlocks dX8_isUnder_18
    · have hf := ite_f c2 hf
      refine lv_iconst (v := 1) hx hb dX8_isUnder_13 (by decide) ?_
      refine lv_goto (tgt := 18) hx hb dX8_isUnder_14 (by decide) ?_
      subst hf
      exact s_zret rfl hx hb hr hI.2.2 hI.1 hlocks dX8_isUnder_18
noncomputable def f_X10_kind  (e0 : Nat) : Int32 := 2
theorem kyX10_kind : Ky yX10_kind cX10_kind 1 (some FieldType.int) 0 := ⟨u3_86, u1_18, by decide, by decide, by decide, by decide +kernel⟩
set_option maxHeartbeats 4000000 in
set_option maxRecDepth 100000 in
theorem c_X10_kind (l : Launch) (D : va_G) (K : List Nat) (sh : Nat → Ent) (ad : Nat → Nat) (cy : Nat → ClassId) (X : va_W) (B : State → Prop) (hcl : Bcl (AS K ad X) B) (S : Nat → Nat) (e0 : Nat) (he0 : SgH S K sh e0) (G : Mem) (L : MemL) (O : MemO)   {vz : Int32} (hf : f_X10_kind e0 = vz) : Met l yX10_kind (wsU yX10_kind cX10_kind 1 (some FieldType.int)) (rmX 1 0 0) (va_Pc [.ref (ad e0)] (PS D K sh ad cy X B G L O)) (QI (AS K ad X) (PH D K sh ad cy X G L O) vz) 0 0 (AS K ad X) := by
  refine s_met (by decide) (Nat.le_of_ble_eq_true rfl) ?_
  intro p e s m args below meth c ls H locs E hK hBs hnm hI hl
  have hl : lv_has ls 1 [(0, .ref (ad e0))] := hl
  have E : Cx p s m args meth c RX10 cX10_kind 1 (some FieldType.int) := E
  obtain ⟨hx, hb, hr, hml, hown, hu, hlocks⟩ := id E
  rw [f_X10_kind] at hf
  refine lv_iconst (v := 2) hx hb dX10_kind_0 (by decide) ?_
  subst hf
  exact s_iret hx hb hr hI.2.2 hI.1 hlocks dX10_kind_1
noncomputable def f_X10_reach (G : Mem) (e0 : Nat) (x1 : Int32) (x2 : Int32) : Int32 := ((f_X7_reach G e0 x1 x2) - x2)
theorem kyX10_reach : Ky yX10_reach cX10_reach 3 (some FieldType.int) 2 := ⟨u3_118, u1_18, by decide, by decide, by decide, by decide +kernel⟩
set_option maxHeartbeats 4000000 in
set_option maxRecDepth 100000 in
theorem c_X10_reach (l : Launch) (D : va_G) (K : List Nat) (sh : Nat → Ent) (ad : Nat → Nat) (cy : Nat → ClassId) (X : va_W) (B : State → Prop) (hcl : Bcl (AS K ad X) B) (S : Nat → Nat) (e0 : Nat) (he0 : SgH S K sh e0) (G : Mem) (L : MemL) (O : MemO) (x1 : Int32) (x2 : Int32)  {vz : Int32} (hf : f_X10_reach G e0 x1 x2 = vz) : Met l yX10_reach (wsU yX10_reach cX10_reach 3 (some FieldType.int)) (rmX 2 0 0) (va_Pc [.ref (ad e0), .int x1, .int x2] (PS D K sh ad cy X B G L O)) (QI (AS K ad X) (PH D K sh ad cy X G L O) vz) 0 0 (AS K ad X) := by
  refine s_met (by decide) (Nat.le_of_ble_eq_true rfl) ?_
  intro p e s m args below meth c ls H locs E hK hBs hnm hI hl
  have hl : lv_has ls 3 [(0, .ref (ad e0)), (1, .int x1), (2, .int x2)] := hl
  have E : Cx p s m args meth c RX10 cX10_reach 3 (some FieldType.int) := E
  obtain ⟨hx, hb, hr, hml, hown, hu, hlocks⟩ := id E
  rw [f_X10_reach] at hf
  refine lv_aload_n hx hb dX10_reach_0 rfl (lv_at hl 0 rfl) ?_
  refine lv_iload_n hx hb dX10_reach_1 rfl (lv_at hl 1 rfl) ?_
  refine lv_iload_n hx hb dX10_reach_2 rfl (lv_at hl 2 rfl) ?_
  refine s_afI hI (s_runSU (rest := []) (As := [.int x1, .int x2]) (np := 2) E hK hI (s_B hcl hBs hI) hcl.2 he0 (c_X7_reach l D K sh ad cy X B hcl S e0 he0 G L O x1 x2 rfl) kyX7_reach (by decide) u3_119 u3_101 u3_23 u3_99 (by decide) rfl hl.1 rfl (Nat.le_of_ble_eq_true rfl) ⟨Nat.zero_le _, Nat.zero_le _⟩ dX10_reach_3) (fun H locs hI => ?_)
  refine lv_iload_n hx hb dX10_reach_6 rfl (lv_at hl 2 rfl) ?_
  refine lv_isub hx hb dX10_reach_7 ?_
  subst hf
  exact s_iret hx hb hr hI.2.2 hI.1 hlocks dX10_reach_8
noncomputable def f_X10_silentSteps (G : Mem) (e0 : Nat) (x1 : Int32) : Int32 := (if x1 < 3 then ((f_X7_silentSteps G e0 x1) + (f_X11_truth 0)) else ((f_X7_silentSteps G e0 x1) + (f_X11_truth 1)))
theorem kyX10_silentSteps : Ky yX10_silentSteps cX10_silentSteps 2 (some FieldType.int) 1 := ⟨u3_135, u1_18, by decide, by decide, by decide, by decide +kernel⟩
set_option maxHeartbeats 4000000 in
set_option maxRecDepth 100000 in
theorem c_X10_silentSteps (l : Launch) (D : va_G) (K : List Nat) (sh : Nat → Ent) (ad : Nat → Nat) (cy : Nat → ClassId) (X : va_W) (B : State → Prop) (hcl : Bcl (AS K ad X) B) (S : Nat → Nat) (e0 : Nat) (he0 : SgH S K sh e0) (G : Mem) (L : MemL) (O : MemO) (x1 : Int32)  {vz : Int32} (hf : f_X10_silentSteps G e0 x1 = vz) : Met l yX10_silentSteps (wsU yX10_silentSteps cX10_silentSteps 2 (some FieldType.int)) (rmX 2 0 0) (va_Pc [.ref (ad e0), .int x1] (PS D K sh ad cy X B G L O)) (QI (AS K ad X) (PH D K sh ad cy X G L O) vz) 0 0 (AS K ad X) := by
  refine s_met (by decide) (Nat.le_of_ble_eq_true rfl) ?_
  intro p e s m args below meth c ls H locs E hK hBs hnm hI hl
  have hl : lv_has ls 2 [(0, .ref (ad e0)), (1, .int x1)] := hl
  have E : Cx p s m args meth c RX10 cX10_silentSteps 2 (some FieldType.int) := E
  obtain ⟨hx, hb, hr, hml, hown, hu, hlocks⟩ := id E
  rw [f_X10_silentSteps] at hf
  refine lv_aload_n hx hb dX10_silentSteps_0 rfl (lv_at hl 0 rfl) ?_
  refine lv_iload_n hx hb dX10_silentSteps_1 rfl (lv_at hl 1 rfl) ?_
  refine s_afI hI (s_runSU (rest := []) (As := [.int x1]) (np := 1) E hK hI (s_B hcl hBs hI) hcl.2 he0 (c_X7_silentSteps l D K sh ad cy X B hcl S e0 he0 G L O x1 rfl) kyX7_silentSteps (by decide) u3_136 u3_127 u3_23 u3_125 (by decide) rfl hl.1 rfl (Nat.le_of_ble_eq_true rfl) ⟨Nat.zero_le _, Nat.zero_le _⟩ dX10_silentSteps_2) (fun H locs hI => ?_)
  refine lv_iload_n hx hb dX10_silentSteps_5 rfl (lv_at hl 1 rfl) ?_
  refine lv_iconst (v := 3) hx hb dX10_silentSteps_6 (by decide) ?_
  refine lv_icmp_lt (tgt := 14) hx hb dX10_silentSteps_7 (by decide) (fun c1 => ?_) (fun c1 => ?_)
  · have hf := ite_t c1 hf
    refine lv_iconst (v := 0) hx hb dX10_silentSteps_14 (by decide) ?_
    refine s_cSNP (host := RX11) (np := 1) (rest := [.int (f_X7_silentSteps G e0 x1)]) E hK (c_X11_truth l 0 rfl) kyX11_truth (by decide) u3_138 (by decide) rfl hl.1 rfl (Nat.le_of_ble_eq_true rfl) ⟨Nat.zero_le _, Nat.zero_le _⟩ dX10_silentSteps_15 ?_
    refine lv_iadd hx hb dX10_silentSteps_18 ?_
    subst hf
    exact s_iret hx hb hr hI.2.2 hI.1 hlocks dX10_silentSteps_19
  · have hf := ite_f c1 hf
    refine lv_iconst (v := 1) hx hb dX10_silentSteps_10 (by decide) ?_
    refine lv_goto (tgt := 15) hx hb dX10_silentSteps_11 (by decide) ?_
    refine s_cSNP (host := RX11) (np := 1) (rest := [.int (f_X7_silentSteps G e0 x1)]) E hK (c_X11_truth l 1 rfl) kyX11_truth (by decide) u3_138 (by decide) rfl hl.1 rfl (Nat.le_of_ble_eq_true rfl) ⟨Nat.zero_le _, Nat.zero_le _⟩ dX10_silentSteps_15 ?_
    refine lv_iadd hx hb dX10_silentSteps_18 ?_
    subst hf
    exact s_iret hx hb hr hI.2.2 hI.1 hlocks dX10_silentSteps_19
noncomputable def f_X10_isUnder  (e0 : Nat) (x1 : Int32) : Int32 := (if x1 = 2 then 1 else (if (f_X7_isUnder e0 x1) = 0 then 0 else 1))
theorem b_X10_isUnder (e0 : Nat) (x1 : Int32) : isB (f_X10_isUnder e0 x1) = true := by
  unfold f_X10_isUnder
  first | (repeat' split) <;> rfl | (repeat' split) <;> first | rfl | exact (b_X7_isUnder e0 x1)
theorem kyX10_isUnder : Ky yX10_isUnder cX10_isUnder 2 (some FieldType.boolean) 1 := ⟨u4_178, u1_18, by decide, by decide, by decide, by decide +kernel⟩
set_option maxHeartbeats 4000000 in
set_option maxRecDepth 100000 in
theorem c_X10_isUnder (l : Launch) (D : va_G) (K : List Nat) (sh : Nat → Ent) (ad : Nat → Nat) (cy : Nat → ClassId) (X : va_W) (B : State → Prop) (hcl : Bcl (AS K ad X) B) (S : Nat → Nat) (e0 : Nat) (he0 : SgH S K sh e0) (G : Mem) (L : MemL) (O : MemO) (x1 : Int32)  {vz : Int32} (hf : f_X10_isUnder e0 x1 = vz) : Met l yX10_isUnder (wsU yX10_isUnder cX10_isUnder 2 (some FieldType.boolean)) (rmX 2 0 0) (va_Pc [.ref (ad e0), .int x1] (PS D K sh ad cy X B G L O)) (QI (AS K ad X) (PH D K sh ad cy X G L O) vz) 0 0 (AS K ad X) := by
  refine s_met (by decide) (Nat.le_of_ble_eq_true rfl) ?_
  intro p e s m args below meth c ls H locs E hK hBs hnm hI hl
  have hl : lv_has ls 2 [(0, .ref (ad e0)), (1, .int x1)] := hl
  have E : Cx p s m args meth c RX10 cX10_isUnder 2 (some FieldType.boolean) := E
  obtain ⟨hx, hb, hr, hml, hown, hu, hlocks⟩ := id E
  rw [f_X10_isUnder] at hf
  refine lv_iload_n hx hb dX10_isUnder_0 rfl (lv_at hl 1 rfl) ?_
  refine lv_iconst (v := 2) hx hb dX10_isUnder_1 (by decide) ?_
  refine lv_icmp_eq (tgt := 13) hx hb dX10_isUnder_2 (by decide) (fun c1 => ?_) (fun c1 => ?_)
  · have hf := ite_t c1 hf
    refine lv_iconst (v := 1) hx hb dX10_isUnder_13 (by decide) ?_
    refine lv_goto (tgt := 18) hx hb dX10_isUnder_14 (by decide) ?_
    subst hf
    exact s_zret rfl hx hb hr hI.2.2 hI.1 hlocks dX10_isUnder_18
  · have hf := ite_f c1 hf
    refine lv_aload_n hx hb dX10_isUnder_5 rfl (lv_at hl 0 rfl) ?_
    refine lv_iload_n hx hb dX10_isUnder_6 rfl (lv_at hl 1 rfl) ?_
    refine s_afI hI (s_runSU (rest := []) (As := [.int x1]) (np := 1) E hK hI (s_B hcl hBs hI) hcl.2 he0 (c_X7_isUnder l D K sh ad cy X B hcl S e0 he0 G L O x1 rfl) kyX7_isUnder (by decide) u4_179 u4_161 u3_23 u4_159 (by decide) rfl hl.1 rfl (Nat.le_of_ble_eq_true rfl) ⟨Nat.zero_le _, Nat.zero_le _⟩ dX10_isUnder_7) (fun H locs hI => ?_)
    refine lv_if_eq (tgt := 17) hx hb dX10_isUnder_10 (by decide) (fun c2 => ?_) (fun c2 => ?_)
    · have hf := ite_t c2 hf
      refine lv_iconst (v := 0) hx hb dX10_isUnder_17 (by decide) ?_
      subst hf
      exact s_zret rfl hx hb hr hI.2.2 hI.1 hlocks dX10_isUnder_18
    · have hf := ite_f c2 hf
      refine lv_iconst (v := 1) hx hb dX10_isUnder_13 (by decide) ?_
      refine lv_goto (tgt := 18) hx hb dX10_isUnder_14 (by decide) ?_
      subst hf
      exact s_zret rfl hx hb hr hI.2.2 hI.1 hlocks dX10_isUnder_18
noncomputable def f_X3_kind  (e0 : Nat) : Int32 := 3
theorem kyX3_kind : Ky yX3_kind cX3_kind 1 (some FieldType.int) 0 := ⟨u3_80, u1_19, by decide, by decide, by decide, by decide +kernel⟩
set_option maxHeartbeats 4000000 in
set_option maxRecDepth 100000 in
theorem c_X3_kind (l : Launch) (D : va_G) (K : List Nat) (sh : Nat → Ent) (ad : Nat → Nat) (cy : Nat → ClassId) (X : va_W) (B : State → Prop) (hcl : Bcl (AS K ad X) B) (S : Nat → Nat) (e0 : Nat) (he0 : SgH S K sh e0) (G : Mem) (L : MemL) (O : MemO)   {vz : Int32} (hf : f_X3_kind e0 = vz) : Met l yX3_kind (wsU yX3_kind cX3_kind 1 (some FieldType.int)) (rmX 1 0 0) (va_Pc [.ref (ad e0)] (PS D K sh ad cy X B G L O)) (QI (AS K ad X) (PH D K sh ad cy X G L O) vz) 0 0 (AS K ad X) := by
  refine s_met (by decide) (Nat.le_of_ble_eq_true rfl) ?_
  intro p e s m args below meth c ls H locs E hK hBs hnm hI hl
  have hl : lv_has ls 1 [(0, .ref (ad e0))] := hl
  have E : Cx p s m args meth c RX3 cX3_kind 1 (some FieldType.int) := E
  obtain ⟨hx, hb, hr, hml, hown, hu, hlocks⟩ := id E
  rw [f_X3_kind] at hf
  refine lv_iconst (v := 3) hx hb dX3_kind_0 (by decide) ?_
  subst hf
  exact s_iret hx hb hr hI.2.2 hI.1 hlocks dX3_kind_1
noncomputable def f_X3_reach (G : Mem) (e0 : Nat) (x1 : Int32) (x2 : Int32) : Int32 := ((f_X10_reach G e0 x1 x2) - (G e0 2))
theorem kyX3_reach : Ky yX3_reach cX3_reach 3 (some FieldType.int) 2 := ⟨u3_115, u1_19, by decide, by decide, by decide, by decide +kernel⟩
set_option maxHeartbeats 4000000 in
set_option maxRecDepth 100000 in
theorem c_X3_reach (l : Launch) (D : va_G) (K : List Nat) (sh : Nat → Ent) (ad : Nat → Nat) (cy : Nat → ClassId) (X : va_W) (B : State → Prop) (hcl : Bcl (AS K ad X) B) (S : Nat → Nat) (e0 : Nat) (he0 : SgH S K sh e0) (G : Mem) (L : MemL) (O : MemO) (x1 : Int32) (x2 : Int32)  {vz : Int32} (hf : f_X3_reach G e0 x1 x2 = vz) : Met l yX3_reach (wsU yX3_reach cX3_reach 3 (some FieldType.int)) (rmX 3 0 0) (va_Pc [.ref (ad e0), .int x1, .int x2] (PS D K sh ad cy X B G L O)) (QI (AS K ad X) (PH D K sh ad cy X G L O) vz) 0 0 (AS K ad X) := by
  refine s_met (by decide) (Nat.le_of_ble_eq_true rfl) ?_
  intro p e s m args below meth c ls H locs E hK hBs hnm hI hl
  have hl : lv_has ls 3 [(0, .ref (ad e0)), (1, .int x1), (2, .int x2)] := hl
  have E : Cx p s m args meth c RX3 cX3_reach 3 (some FieldType.int) := E
  obtain ⟨hx, hb, hr, hml, hown, hu, hlocks⟩ := id E
  rw [f_X3_reach] at hf
  refine lv_aload_n hx hb dX3_reach_0 rfl (lv_at hl 0 rfl) ?_
  refine lv_iload_n hx hb dX3_reach_1 rfl (lv_at hl 1 rfl) ?_
  refine lv_iload_n hx hb dX3_reach_2 rfl (lv_at hl 2 rfl) ?_
  refine s_afI hI (s_runSU (rest := []) (As := [.int x1, .int x2]) (np := 2) E hK hI (s_B hcl hBs hI) hcl.2 he0 (c_X10_reach l D K sh ad cy X B hcl S e0 he0 G L O x1 x2 rfl) kyX10_reach (by decide) u3_116 u6_150 u3_33 u3_117 (by decide) rfl hl.1 rfl (Nat.le_of_ble_eq_true rfl) ⟨Nat.zero_le _, Nat.zero_le _⟩ dX3_reach_3) (fun H locs hI => ?_)
  refine lv_aload_n hx hb dX3_reach_6 rfl (lv_at hl 0 rfl) ?_
  refine s_getSg hx hb hu hown hK hI (he0) 2 (by decide) u3_4 (fun x h => u_same (hu _ u3_5) x h) dX3_reach_7 ?_
  refine lv_isub hx hb dX3_reach_10 ?_
  subst hf
  exact s_iret hx hb hr hI.2.2 hI.1 hlocks dX3_reach_11
noncomputable def f_X3_isUnder  (e0 : Nat) (x1 : Int32) : Int32 := (if x1 = 3 then 1 else (if (f_X10_isUnder e0 x1) = 0 then 0 else 1))
theorem b_X3_isUnder (e0 : Nat) (x1 : Int32) : isB (f_X3_isUnder e0 x1) = true := by
  unfold f_X3_isUnder
  first | (repeat' split) <;> rfl | (repeat' split) <;> first | rfl | exact (b_X10_isUnder e0 x1)
theorem kyX3_isUnder : Ky yX3_isUnder cX3_isUnder 2 (some FieldType.boolean) 1 := ⟨u4_175, u1_19, by decide, by decide, by decide, by decide +kernel⟩
set_option maxHeartbeats 4000000 in
set_option maxRecDepth 100000 in
theorem c_X3_isUnder (l : Launch) (D : va_G) (K : List Nat) (sh : Nat → Ent) (ad : Nat → Nat) (cy : Nat → ClassId) (X : va_W) (B : State → Prop) (hcl : Bcl (AS K ad X) B) (S : Nat → Nat) (e0 : Nat) (he0 : SgH S K sh e0) (G : Mem) (L : MemL) (O : MemO) (x1 : Int32)  {vz : Int32} (hf : f_X3_isUnder e0 x1 = vz) : Met l yX3_isUnder (wsU yX3_isUnder cX3_isUnder 2 (some FieldType.boolean)) (rmX 3 0 0) (va_Pc [.ref (ad e0), .int x1] (PS D K sh ad cy X B G L O)) (QI (AS K ad X) (PH D K sh ad cy X G L O) vz) 0 0 (AS K ad X) := by
  refine s_met (by decide) (Nat.le_of_ble_eq_true rfl) ?_
  intro p e s m args below meth c ls H locs E hK hBs hnm hI hl
  have hl : lv_has ls 2 [(0, .ref (ad e0)), (1, .int x1)] := hl
  have E : Cx p s m args meth c RX3 cX3_isUnder 2 (some FieldType.boolean) := E
  obtain ⟨hx, hb, hr, hml, hown, hu, hlocks⟩ := id E
  rw [f_X3_isUnder] at hf
  refine lv_iload_n hx hb dX3_isUnder_0 rfl (lv_at hl 1 rfl) ?_
  refine lv_iconst (v := 3) hx hb dX3_isUnder_1 (by decide) ?_
  refine lv_icmp_eq (tgt := 13) hx hb dX3_isUnder_2 (by decide) (fun c1 => ?_) (fun c1 => ?_)
  · have hf := ite_t c1 hf
    refine lv_iconst (v := 1) hx hb dX3_isUnder_13 (by decide) ?_
    refine lv_goto (tgt := 18) hx hb dX3_isUnder_14 (by decide) ?_
    subst hf
    exact s_zret rfl hx hb hr hI.2.2 hI.1 hlocks dX3_isUnder_18
  · have hf := ite_f c1 hf
    refine lv_aload_n hx hb dX3_isUnder_5 rfl (lv_at hl 0 rfl) ?_
    refine lv_iload_n hx hb dX3_isUnder_6 rfl (lv_at hl 1 rfl) ?_
    refine s_afI hI (s_runSU (rest := []) (As := [.int x1]) (np := 1) E hK hI (s_B hcl hBs hI) hcl.2 he0 (c_X10_isUnder l D K sh ad cy X B hcl S e0 he0 G L O x1 rfl) kyX10_isUnder (by decide) u4_176 u6_152 u3_33 u4_177 (by decide) rfl hl.1 rfl (Nat.le_of_ble_eq_true rfl) ⟨Nat.zero_le _, Nat.zero_le _⟩ dX3_isUnder_7) (fun H locs hI => ?_)
    refine lv_if_eq (tgt := 17) hx hb dX3_isUnder_10 (by decide) (fun c2 => ?_) (fun c2 => ?_)
    · have hf := ite_t c2 hf
      refine lv_iconst (v := 0) hx hb dX3_isUnder_17 (by decide) ?_
      subst hf
      exact s_zret rfl hx hb hr hI.2.2 hI.1 hlocks dX3_isUnder_18
    · have hf := ite_f c2 hf
      refine lv_iconst (v := 1) hx hb dX3_isUnder_13 (by decide) ?_
      refine lv_goto (tgt := 18) hx hb dX3_isUnder_14 (by decide) ?_
      subst hf
      exact s_zret rfl hx hb hr hI.2.2 hI.1 hlocks dX3_isUnder_18
noncomputable def f_X2_kind  (e0 : Nat) : Int32 := 4
theorem kyX2_kind : Ky yX2_kind cX2_kind 1 (some FieldType.int) 0 := ⟨u3_77, u1_20, by decide, by decide, by decide, by decide +kernel⟩
set_option maxHeartbeats 4000000 in
set_option maxRecDepth 100000 in
theorem c_X2_kind (l : Launch) (D : va_G) (K : List Nat) (sh : Nat → Ent) (ad : Nat → Nat) (cy : Nat → ClassId) (X : va_W) (B : State → Prop) (hcl : Bcl (AS K ad X) B) (S : Nat → Nat) (e0 : Nat) (he0 : SgH S K sh e0) (G : Mem) (L : MemL) (O : MemO)   {vz : Int32} (hf : f_X2_kind e0 = vz) : Met l yX2_kind (wsU yX2_kind cX2_kind 1 (some FieldType.int)) (rmX 1 0 0) (va_Pc [.ref (ad e0)] (PS D K sh ad cy X B G L O)) (QI (AS K ad X) (PH D K sh ad cy X G L O) vz) 0 0 (AS K ad X) := by
  refine s_met (by decide) (Nat.le_of_ble_eq_true rfl) ?_
  intro p e s m args below meth c ls H locs E hK hBs hnm hI hl
  have hl : lv_has ls 1 [(0, .ref (ad e0))] := hl
  have E : Cx p s m args meth c RX2 cX2_kind 1 (some FieldType.int) := E
  obtain ⟨hx, hb, hr, hml, hown, hu, hlocks⟩ := id E
  rw [f_X2_kind] at hf
  refine lv_iconst (v := 4) hx hb dX2_kind_0 (by decide) ?_
  subst hf
  exact s_iret hx hb hr hI.2.2 hI.1 hlocks dX2_kind_1
noncomputable def f_X2_reach (G : Mem) (e0 : Nat) (x1 : Int32) (x2 : Int32) : Int32 := ((f_X8_reach G e0 x1 x2) + (G e0 2))
theorem kyX2_reach : Ky yX2_reach cX2_reach 3 (some FieldType.int) 2 := ⟨u3_108, u1_20, by decide, by decide, by decide, by decide +kernel⟩
set_option maxHeartbeats 4000000 in
set_option maxRecDepth 100000 in
theorem c_X2_reach (l : Launch) (D : va_G) (K : List Nat) (sh : Nat → Ent) (ad : Nat → Nat) (cy : Nat → ClassId) (X : va_W) (B : State → Prop) (hcl : Bcl (AS K ad X) B) (S : Nat → Nat) (e0 : Nat) (he0 : SgH S K sh e0) (G : Mem) (L : MemL) (O : MemO) (x1 : Int32) (x2 : Int32)  {vz : Int32} (hf : f_X2_reach G e0 x1 x2 = vz) : Met l yX2_reach (wsU yX2_reach cX2_reach 3 (some FieldType.int)) (rmX 3 0 0) (va_Pc [.ref (ad e0), .int x1, .int x2] (PS D K sh ad cy X B G L O)) (QI (AS K ad X) (PH D K sh ad cy X G L O) vz) 0 0 (AS K ad X) := by
  refine s_met (by decide) (Nat.le_of_ble_eq_true rfl) ?_
  intro p e s m args below meth c ls H locs E hK hBs hnm hI hl
  have hl : lv_has ls 3 [(0, .ref (ad e0)), (1, .int x1), (2, .int x2)] := hl
  have E : Cx p s m args meth c RX2 cX2_reach 3 (some FieldType.int) := E
  obtain ⟨hx, hb, hr, hml, hown, hu, hlocks⟩ := id E
  rw [f_X2_reach] at hf
  refine lv_aload_n hx hb dX2_reach_0 rfl (lv_at hl 0 rfl) ?_
  refine lv_iload_n hx hb dX2_reach_1 rfl (lv_at hl 1 rfl) ?_
  refine lv_iload_n hx hb dX2_reach_2 rfl (lv_at hl 2 rfl) ?_
  refine s_afI hI (s_runSU (rest := []) (As := [.int x1, .int x2]) (np := 2) E hK hI (s_B hcl hBs hI) hcl.2 he0 (c_X8_reach l D K sh ad cy X B hcl S e0 he0 G L O x1 x2 rfl) kyX8_reach (by decide) u3_109 u6_149 u3_43 u3_110 (by decide) rfl hl.1 rfl (Nat.le_of_ble_eq_true rfl) ⟨Nat.zero_le _, Nat.zero_le _⟩ dX2_reach_3) (fun H locs hI => ?_)
  refine lv_aload_n hx hb dX2_reach_6 rfl (lv_at hl 0 rfl) ?_
  refine s_getSg hx hb hu hown hK hI (he0) 2 (by decide) u3_2 (fun x h => u_same (hu _ u3_3) x h) dX2_reach_7 ?_
  refine lv_iadd hx hb dX2_reach_10 ?_
  subst hf
  exact s_iret hx hb hr hI.2.2 hI.1 hlocks dX2_reach_11
noncomputable def f_X2_isUnder  (e0 : Nat) (x1 : Int32) : Int32 := (if x1 = 4 then 1 else (if (f_X8_isUnder e0 x1) = 0 then 0 else 1))
theorem b_X2_isUnder (e0 : Nat) (x1 : Int32) : isB (f_X2_isUnder e0 x1) = true := by
  unfold f_X2_isUnder
  first | (repeat' split) <;> rfl | (repeat' split) <;> first | rfl | exact (b_X8_isUnder e0 x1)
theorem kyX2_isUnder : Ky yX2_isUnder cX2_isUnder 2 (some FieldType.boolean) 1 := ⟨u4_168, u1_20, by decide, by decide, by decide, by decide +kernel⟩
set_option maxHeartbeats 4000000 in
set_option maxRecDepth 100000 in
theorem c_X2_isUnder (l : Launch) (D : va_G) (K : List Nat) (sh : Nat → Ent) (ad : Nat → Nat) (cy : Nat → ClassId) (X : va_W) (B : State → Prop) (hcl : Bcl (AS K ad X) B) (S : Nat → Nat) (e0 : Nat) (he0 : SgH S K sh e0) (G : Mem) (L : MemL) (O : MemO) (x1 : Int32)  {vz : Int32} (hf : f_X2_isUnder e0 x1 = vz) : Met l yX2_isUnder (wsU yX2_isUnder cX2_isUnder 2 (some FieldType.boolean)) (rmX 3 0 0) (va_Pc [.ref (ad e0), .int x1] (PS D K sh ad cy X B G L O)) (QI (AS K ad X) (PH D K sh ad cy X G L O) vz) 0 0 (AS K ad X) := by
  refine s_met (by decide) (Nat.le_of_ble_eq_true rfl) ?_
  intro p e s m args below meth c ls H locs E hK hBs hnm hI hl
  have hl : lv_has ls 2 [(0, .ref (ad e0)), (1, .int x1)] := hl
  have E : Cx p s m args meth c RX2 cX2_isUnder 2 (some FieldType.boolean) := E
  obtain ⟨hx, hb, hr, hml, hown, hu, hlocks⟩ := id E
  rw [f_X2_isUnder] at hf
  refine lv_iload_n hx hb dX2_isUnder_0 rfl (lv_at hl 1 rfl) ?_
  refine lv_iconst (v := 4) hx hb dX2_isUnder_1 (by decide) ?_
  refine lv_icmp_eq (tgt := 13) hx hb dX2_isUnder_2 (by decide) (fun c1 => ?_) (fun c1 => ?_)
  · have hf := ite_t c1 hf
    refine lv_iconst (v := 1) hx hb dX2_isUnder_13 (by decide) ?_
    refine lv_goto (tgt := 18) hx hb dX2_isUnder_14 (by decide) ?_
    subst hf
    exact s_zret rfl hx hb hr hI.2.2 hI.1 hlocks dX2_isUnder_18
  · have hf := ite_f c1 hf
    refine lv_aload_n hx hb dX2_isUnder_5 rfl (lv_at hl 0 rfl) ?_
    refine lv_iload_n hx hb dX2_isUnder_6 rfl (lv_at hl 1 rfl) ?_
    refine s_afI hI (s_runSU (rest := []) (As := [.int x1]) (np := 1) E hK hI (s_B hcl hBs hI) hcl.2 he0 (c_X8_isUnder l D K sh ad cy X B hcl S e0 he0 G L O x1 rfl) kyX8_isUnder (by decide) u4_169 u6_151 u3_43 u4_170 (by decide) rfl hl.1 rfl (Nat.le_of_ble_eq_true rfl) ⟨Nat.zero_le _, Nat.zero_le _⟩ dX2_isUnder_7) (fun H locs hI => ?_)
    refine lv_if_eq (tgt := 17) hx hb dX2_isUnder_10 (by decide) (fun c2 => ?_) (fun c2 => ?_)
    · have hf := ite_t c2 hf
      refine lv_iconst (v := 0) hx hb dX2_isUnder_17 (by decide) ?_
      subst hf
      exact s_zret rfl hx hb hr hI.2.2 hI.1 hlocks dX2_isUnder_18
    · have hf := ite_f c2 hf
      refine lv_iconst (v := 1) hx hb dX2_isUnder_13 (by decide) ?_
      refine lv_goto (tgt := 18) hx hb dX2_isUnder_14 (by decide) ?_
      subst hf
      exact s_zret rfl hx hb hr hI.2.2 hI.1 hlocks dX2_isUnder_18
noncomputable def f_X0_kind  (e0 : Nat) : Int32 := 5
theorem kyX0_kind : Ky yX0_kind cX0_kind 1 (some FieldType.int) 0 := ⟨u3_74, u1_21, by decide, by decide, by decide, by decide +kernel⟩
set_option maxHeartbeats 4000000 in
set_option maxRecDepth 100000 in
theorem c_X0_kind (l : Launch) (D : va_G) (K : List Nat) (sh : Nat → Ent) (ad : Nat → Nat) (cy : Nat → ClassId) (X : va_W) (B : State → Prop) (hcl : Bcl (AS K ad X) B) (S : Nat → Nat) (e0 : Nat) (he0 : SgH S K sh e0) (G : Mem) (L : MemL) (O : MemO)   {vz : Int32} (hf : f_X0_kind e0 = vz) : Met l yX0_kind (wsU yX0_kind cX0_kind 1 (some FieldType.int)) (rmX 1 0 0) (va_Pc [.ref (ad e0)] (PS D K sh ad cy X B G L O)) (QI (AS K ad X) (PH D K sh ad cy X G L O) vz) 0 0 (AS K ad X) := by
  refine s_met (by decide) (Nat.le_of_ble_eq_true rfl) ?_
  intro p e s m args below meth c ls H locs E hK hBs hnm hI hl
  have hl : lv_has ls 1 [(0, .ref (ad e0))] := hl
  have E : Cx p s m args meth c RX0 cX0_kind 1 (some FieldType.int) := E
  obtain ⟨hx, hb, hr, hml, hown, hu, hlocks⟩ := id E
  rw [f_X0_kind] at hf
  refine lv_iconst (v := 5) hx hb dX0_kind_0 (by decide) ?_
  subst hf
  exact s_iret hx hb hr hI.2.2 hI.1 hlocks dX0_kind_1
noncomputable def f_X0_reach (G : Mem) (e0 : Nat) (x1 : Int32) (x2 : Int32) : Int32 := ((f_X7_reach G e0 x1 x2) / 2)
theorem kyX0_reach : Ky yX0_reach cX0_reach 3 (some FieldType.int) 2 := ⟨u3_104, u1_21, by decide, by decide, by decide, by decide +kernel⟩
set_option maxHeartbeats 4000000 in
set_option maxRecDepth 100000 in
theorem c_X0_reach (l : Launch) (D : va_G) (K : List Nat) (sh : Nat → Ent) (ad : Nat → Nat) (cy : Nat → ClassId) (X : va_W) (B : State → Prop) (hcl : Bcl (AS K ad X) B) (S : Nat → Nat) (e0 : Nat) (he0 : SgH S K sh e0) (G : Mem) (L : MemL) (O : MemO) (x1 : Int32) (x2 : Int32)  {vz : Int32} (hf : f_X0_reach G e0 x1 x2 = vz) : Met l yX0_reach (wsU yX0_reach cX0_reach 3 (some FieldType.int)) (rmX 2 0 0) (va_Pc [.ref (ad e0), .int x1, .int x2] (PS D K sh ad cy X B G L O)) (QI (AS K ad X) (PH D K sh ad cy X G L O) vz) 0 0 (AS K ad X) := by
  refine s_met (by decide) (Nat.le_of_ble_eq_true rfl) ?_
  intro p e s m args below meth c ls H locs E hK hBs hnm hI hl
  have hl : lv_has ls 3 [(0, .ref (ad e0)), (1, .int x1), (2, .int x2)] := hl
  have E : Cx p s m args meth c RX0 cX0_reach 3 (some FieldType.int) := E
  obtain ⟨hx, hb, hr, hml, hown, hu, hlocks⟩ := id E
  rw [f_X0_reach] at hf
  refine lv_aload_n hx hb dX0_reach_0 rfl (lv_at hl 0 rfl) ?_
  refine lv_iload_n hx hb dX0_reach_1 rfl (lv_at hl 1 rfl) ?_
  refine lv_iload_n hx hb dX0_reach_2 rfl (lv_at hl 2 rfl) ?_
  refine s_afI hI (s_runSU (rest := []) (As := [.int x1, .int x2]) (np := 2) E hK hI (s_B hcl hBs hI) hcl.2 he0 (c_X7_reach l D K sh ad cy X B hcl S e0 he0 G L O x1 x2 rfl) kyX7_reach (by decide) u3_105 u3_101 u3_53 u3_99 (by decide) rfl hl.1 rfl (Nat.le_of_ble_eq_true rfl) ⟨Nat.zero_le _, Nat.zero_le _⟩ dX0_reach_3) (fun H locs hI => ?_)
  refine lv_iconst (v := 2) hx hb dX0_reach_6 (by decide) ?_
  refine lv_idiv hx hb dX0_reach_7 (by decide) ?_
  subst hf
  exact s_iret hx hb hr hI.2.2 hI.1 hlocks dX0_reach_8
noncomputable def f_X0_silentSteps (G : Mem) (e0 : Nat) (x1 : Int32) : Int32 := (2 * (f_X7_silentSteps G e0 x1))
theorem kyX0_silentSteps : Ky yX0_silentSteps cX0_silentSteps 2 (some FieldType.int) 1 := ⟨u3_130, u1_21, by decide, by decide, by decide, by decide +kernel⟩
set_option maxHeartbeats 4000000 in
set_option maxRecDepth 100000 in
theorem c_X0_silentSteps (l : Launch) (D : va_G) (K : List Nat) (sh : Nat → Ent) (ad : Nat → Nat) (cy : Nat → ClassId) (X : va_W) (B : State → Prop) (hcl : Bcl (AS K ad X) B) (S : Nat → Nat) (e0 : Nat) (he0 : SgH S K sh e0) (G : Mem) (L : MemL) (O : MemO) (x1 : Int32)  {vz : Int32} (hf : f_X0_silentSteps G e0 x1 = vz) : Met l yX0_silentSteps (wsU yX0_silentSteps cX0_silentSteps 2 (some FieldType.int)) (rmX 2 0 0) (va_Pc [.ref (ad e0), .int x1] (PS D K sh ad cy X B G L O)) (QI (AS K ad X) (PH D K sh ad cy X G L O) vz) 0 0 (AS K ad X) := by
  refine s_met (by decide) (Nat.le_of_ble_eq_true rfl) ?_
  intro p e s m args below meth c ls H locs E hK hBs hnm hI hl
  have hl : lv_has ls 2 [(0, .ref (ad e0)), (1, .int x1)] := hl
  have E : Cx p s m args meth c RX0 cX0_silentSteps 2 (some FieldType.int) := E
  obtain ⟨hx, hb, hr, hml, hown, hu, hlocks⟩ := id E
  rw [f_X0_silentSteps] at hf
  refine lv_iconst (v := 2) hx hb dX0_silentSteps_0 (by decide) ?_
  refine lv_aload_n hx hb dX0_silentSteps_1 rfl (lv_at hl 0 rfl) ?_
  refine lv_iload_n hx hb dX0_silentSteps_2 rfl (lv_at hl 1 rfl) ?_
  refine s_afI hI (s_runSU (rest := [.int 2]) (As := [.int x1]) (np := 1) E hK hI (s_B hcl hBs hI) hcl.2 he0 (c_X7_silentSteps l D K sh ad cy X B hcl S e0 he0 G L O x1 rfl) kyX7_silentSteps (by decide) u3_131 u3_127 u3_53 u3_125 (by decide) rfl hl.1 rfl (Nat.le_of_ble_eq_true rfl) ⟨Nat.zero_le _, Nat.zero_le _⟩ dX0_silentSteps_3) (fun H locs hI => ?_)
  refine lv_imul hx hb dX0_silentSteps_6 ?_
  subst hf
  exact s_iret hx hb hr hI.2.2 hI.1 hlocks dX0_silentSteps_7
noncomputable def f_X0_says  (e0 : Nat) (x1 : Int32) : Int32 := 1
theorem b_X0_says (e0 : Nat) (x1 : Int32) : isB (f_X0_says e0 x1) = true := by
  unfold f_X0_says
  first | (repeat' split) <;> rfl
theorem kyX0_says : Ky yX0_says cX0_says 2 (some FieldType.boolean) 1 := ⟨u3_149, u1_21, by decide, by decide, by decide, by decide +kernel⟩
set_option maxHeartbeats 4000000 in
set_option maxRecDepth 100000 in
theorem c_X0_says (l : Launch) (D : va_G) (K : List Nat) (sh : Nat → Ent) (ad : Nat → Nat) (cy : Nat → ClassId) (X : va_W) (B : State → Prop) (hcl : Bcl (AS K ad X) B) (S : Nat → Nat) (e0 : Nat) (he0 : SgH S K sh e0) (G : Mem) (L : MemL) (O : MemO) (x1 : Int32)  {vz : Int32} (hf : f_X0_says e0 x1 = vz) : Met l yX0_says (wsU yX0_says cX0_says 2 (some FieldType.boolean)) (rmX 1 0 0) (va_Pc [.ref (ad e0), .int x1] (PS D K sh ad cy X B G L O)) (QI (AS K ad X) (PH D K sh ad cy X G L O) vz) 0 0 (AS K ad X) := by
  refine s_met (by decide) (Nat.le_of_ble_eq_true rfl) ?_
  intro p e s m args below meth c ls H locs E hK hBs hnm hI hl
  have hl : lv_has ls 2 [(0, .ref (ad e0)), (1, .int x1)] := hl
  have E : Cx p s m args meth c RX0 cX0_says 2 (some FieldType.boolean) := E
  obtain ⟨hx, hb, hr, hml, hown, hu, hlocks⟩ := id E
  rw [f_X0_says] at hf
  refine lv_iconst (v := 1) hx hb dX0_says_0 (by decide) ?_
  subst hf
  exact s_zret rfl hx hb hr hI.2.2 hI.1 hlocks dX0_says_1
noncomputable def f_X0_isUnder  (e0 : Nat) (x1 : Int32) : Int32 := (if x1 = 5 then 1 else (if (f_X7_isUnder e0 x1) = 0 then 0 else 1))
theorem b_X0_isUnder (e0 : Nat) (x1 : Int32) : isB (f_X0_isUnder e0 x1) = true := by
  unfold f_X0_isUnder
  first | (repeat' split) <;> rfl | (repeat' split) <;> first | rfl | exact (b_X7_isUnder e0 x1)
theorem kyX0_isUnder : Ky yX0_isUnder cX0_isUnder 2 (some FieldType.boolean) 1 := ⟨u4_164, u1_21, by decide, by decide, by decide, by decide +kernel⟩
set_option maxHeartbeats 4000000 in
set_option maxRecDepth 100000 in
theorem c_X0_isUnder (l : Launch) (D : va_G) (K : List Nat) (sh : Nat → Ent) (ad : Nat → Nat) (cy : Nat → ClassId) (X : va_W) (B : State → Prop) (hcl : Bcl (AS K ad X) B) (S : Nat → Nat) (e0 : Nat) (he0 : SgH S K sh e0) (G : Mem) (L : MemL) (O : MemO) (x1 : Int32)  {vz : Int32} (hf : f_X0_isUnder e0 x1 = vz) : Met l yX0_isUnder (wsU yX0_isUnder cX0_isUnder 2 (some FieldType.boolean)) (rmX 2 0 0) (va_Pc [.ref (ad e0), .int x1] (PS D K sh ad cy X B G L O)) (QI (AS K ad X) (PH D K sh ad cy X G L O) vz) 0 0 (AS K ad X) := by
  refine s_met (by decide) (Nat.le_of_ble_eq_true rfl) ?_
  intro p e s m args below meth c ls H locs E hK hBs hnm hI hl
  have hl : lv_has ls 2 [(0, .ref (ad e0)), (1, .int x1)] := hl
  have E : Cx p s m args meth c RX0 cX0_isUnder 2 (some FieldType.boolean) := E
  obtain ⟨hx, hb, hr, hml, hown, hu, hlocks⟩ := id E
  rw [f_X0_isUnder] at hf
  refine lv_iload_n hx hb dX0_isUnder_0 rfl (lv_at hl 1 rfl) ?_
  refine lv_iconst (v := 5) hx hb dX0_isUnder_1 (by decide) ?_
  refine lv_icmp_eq (tgt := 13) hx hb dX0_isUnder_2 (by decide) (fun c1 => ?_) (fun c1 => ?_)
  · have hf := ite_t c1 hf
    refine lv_iconst (v := 1) hx hb dX0_isUnder_13 (by decide) ?_
    refine lv_goto (tgt := 18) hx hb dX0_isUnder_14 (by decide) ?_
    subst hf
    exact s_zret rfl hx hb hr hI.2.2 hI.1 hlocks dX0_isUnder_18
  · have hf := ite_f c1 hf
    refine lv_aload_n hx hb dX0_isUnder_5 rfl (lv_at hl 0 rfl) ?_
    refine lv_iload_n hx hb dX0_isUnder_6 rfl (lv_at hl 1 rfl) ?_
    refine s_afI hI (s_runSU (rest := []) (As := [.int x1]) (np := 1) E hK hI (s_B hcl hBs hI) hcl.2 he0 (c_X7_isUnder l D K sh ad cy X B hcl S e0 he0 G L O x1 rfl) kyX7_isUnder (by decide) u4_165 u4_161 u3_53 u4_159 (by decide) rfl hl.1 rfl (Nat.le_of_ble_eq_true rfl) ⟨Nat.zero_le _, Nat.zero_le _⟩ dX0_isUnder_7) (fun H locs hI => ?_)
    refine lv_if_eq (tgt := 17) hx hb dX0_isUnder_10 (by decide) (fun c2 => ?_) (fun c2 => ?_)
    · have hf := ite_t c2 hf
      refine lv_iconst (v := 0) hx hb dX0_isUnder_17 (by decide) ?_
      subst hf
      exact s_zret rfl hx hb hr hI.2.2 hI.1 hlocks dX0_isUnder_18
    · have hf := ite_f c2 hf
      refine lv_iconst (v := 1) hx hb dX0_isUnder_13 (by decide) ?_
      refine lv_goto (tgt := 18) hx hb dX0_isUnder_14 (by decide) ?_
      subst hf
      exact s_zret rfl hx hb hr hI.2.2 hI.1 hlocks dX0_isUnder_18
noncomputable def f_Dkind  (S : Nat → Nat) (e0 : Nat) : Int32 := if S e0 = 0 then f_X0_kind e0 else if S e0 = 2 then f_X2_kind e0 else if S e0 = 3 then f_X3_kind e0 else if S e0 = 7 then f_X7_kind e0 else if S e0 = 8 then f_X8_kind e0 else f_X10_kind e0
noncomputable def f_Dreach (G : Mem) (S : Nat → Nat) (e0 : Nat) (x1 : Int32) (x2 : Int32) : Int32 := if S e0 = 0 then f_X0_reach G e0 x1 x2 else if S e0 = 2 then f_X2_reach G e0 x1 x2 else if S e0 = 3 then f_X3_reach G e0 x1 x2 else if S e0 = 7 then f_X7_reach G e0 x1 x2 else if S e0 = 8 then f_X8_reach G e0 x1 x2 else f_X10_reach G e0 x1 x2
noncomputable def f_DsilentSteps (G : Mem) (S : Nat → Nat) (e0 : Nat) (x1 : Int32) : Int32 := if S e0 = 0 then f_X0_silentSteps G e0 x1 else if S e0 = 2 then f_X7_silentSteps G e0 x1 else if S e0 = 3 then f_X10_silentSteps G e0 x1 else if S e0 = 7 then f_X7_silentSteps G e0 x1 else if S e0 = 8 then f_X7_silentSteps G e0 x1 else f_X10_silentSteps G e0 x1
noncomputable def f_DisUnder  (S : Nat → Nat) (e0 : Nat) (x1 : Int32) : Int32 := if S e0 = 0 then f_X0_isUnder e0 x1 else if S e0 = 2 then f_X2_isUnder e0 x1 else if S e0 = 3 then f_X3_isUnder e0 x1 else if S e0 = 7 then f_X7_isUnder e0 x1 else if S e0 = 8 then f_X8_isUnder e0 x1 else f_X10_isUnder e0 x1
theorem b_DisUnder  (S : Nat → Nat) (e0 : Nat) (x1 : Int32) : isB (f_DisUnder S e0 x1) = true := by
  unfold f_DisUnder
  (repeat' split) <;> first | exact b_X0_isUnder e0 x1 | exact b_X2_isUnder e0 x1 | exact b_X3_isUnder e0 x1 | exact b_X7_isUnder e0 x1 | exact b_X8_isUnder e0 x1 | exact b_X10_isUnder e0 x1
set_option maxHeartbeats 4000000 in
theorem r_RX7_19 (l : Launch) (D : va_G) (K : List Nat) (sh : Nat → Ent) (ad : Nat → Nat) (cy : Nat → ClassId) (X : va_W) (B : State → Prop) (hcl : Bcl (AS K ad X) B) (S : Nat → Nat) (k : Nat) (hE : SgH S K sh k) (x1 : Int32) (x2 : Int32) {p : Program} {e : Env} {s : State} {m : MethodId} {args : Array Value} {below : List Frame} {meth : Method} {c : Code} {H : Heap} {locs : List Loc} {cs ss nL pc lv' : Nat} {ls : Array Slot} {rest : List Value} {cc : ByteArray} {rt : Option FieldType} {A : Nat → Prop} {G : Mem} {L : MemL} {O : MemO} (E : Cx p s m args meth c RX7 cc nL rt) (hK : KS D cy s) (hI : IS D K sh ad cy X A s.heap H locs G L O) (hBU : ∀ U : State, U.heap = H → s.WarmedH U.vm → B U) (hlv : 3 + 1 ≤ lv') (hls : ls.size = nL) (hW : (rest.map fun v => v.category).sum ≤ 8) (hdg : decode cc pc = .ok (.invokevirtual 19, 3)) :
    va_Run p l e (rmX lv' cs ss) s m args below meth c H locs 0 0 0 0 (F0 m pc ls ([.int x1, .int x2].reverse ++ .ref (ad k) :: rest)) rest (QI (AS K ad X) (PH D K sh ad cy X G L O) (f_Dreach G S k x1 x2) (Value.ref (ad k) :: [.int x1, .int x2]).toArray) (AS K ad X) := by
  obtain ⟨⟨h1, h2⟩, h3⟩ := id hE
  rcases sg_cases h3 with q | q | q | q | q | q
  · have hv : f_Dreach G S k x1 x2 = f_X0_reach G k x1 x2 := by simp only [f_Dreach, q, if_true, if_false, reduceIte, Nat.reduceEqDiff]
    rw [q] at h2
    exact s_runU (owner := RX7) (x := yX7_reach) (As := [.int x1, .int x2]) (rest := rest) (np := 2) E hK hI hBU hcl.2 ⟨h1, h2⟩ rfl (c_X0_reach l D K sh ad cy X B hcl S k hE G L O x1 x2 hv.symm) (s_cwO E.2.2.2.2.2.1 kyX0_reach (show 2 + 1 ≤ lv' by omega) u3_98 u3_101 u3_99 u3_102 u3_103 u3_122 ⟨by decide, by decide, by decide +kernel⟩) rfl hls rfl hW ⟨Nat.zero_le _, Nat.zero_le _⟩ hdg
  · have hv : f_Dreach G S k x1 x2 = f_X2_reach G k x1 x2 := by simp only [f_Dreach, q, if_true, if_false, reduceIte, Nat.reduceEqDiff]
    rw [q] at h2
    exact s_runU (owner := RX7) (x := yX7_reach) (As := [.int x1, .int x2]) (rest := rest) (np := 2) E hK hI hBU hcl.2 ⟨h1, h2⟩ rfl (c_X2_reach l D K sh ad cy X B hcl S k hE G L O x1 x2 hv.symm) (s_cwO E.2.2.2.2.2.1 kyX2_reach (show 3 + 1 ≤ lv' by omega) u3_98 u3_101 u3_99 u3_106 u3_107 u3_122 ⟨by decide, by decide, by decide +kernel⟩) rfl hls rfl hW ⟨Nat.zero_le _, Nat.zero_le _⟩ hdg
  · have hv : f_Dreach G S k x1 x2 = f_X3_reach G k x1 x2 := by simp only [f_Dreach, q, if_true, if_false, reduceIte, Nat.reduceEqDiff]
    rw [q] at h2
    exact s_runU (owner := RX7) (x := yX7_reach) (As := [.int x1, .int x2]) (rest := rest) (np := 2) E hK hI hBU hcl.2 ⟨h1, h2⟩ rfl (c_X3_reach l D K sh ad cy X B hcl S k hE G L O x1 x2 hv.symm) (s_cwO E.2.2.2.2.2.1 kyX3_reach (show 3 + 1 ≤ lv' by omega) u3_98 u3_101 u3_99 u3_113 u3_114 u3_122 ⟨by decide, by decide, by decide +kernel⟩) rfl hls rfl hW ⟨Nat.zero_le _, Nat.zero_le _⟩ hdg
  · have hv : f_Dreach G S k x1 x2 = f_X7_reach G k x1 x2 := by simp only [f_Dreach, q, if_true, if_false, reduceIte, Nat.reduceEqDiff]
    rw [q] at h2
    exact s_runU (owner := RX7) (x := yX7_reach) (As := [.int x1, .int x2]) (rest := rest) (np := 2) E hK hI hBU hcl.2 ⟨h1, h2⟩ rfl (c_X7_reach l D K sh ad cy X B hcl S k hE G L O x1 x2 hv.symm) (s_cwUi E.2.2.2.2.2.1 kyX7_reach (show 1 + 1 ≤ lv' by omega) u3_98 u3_101 u3_100 u3_99 rfl ⟨by decide, by decide, by decide +kernel⟩) rfl hls rfl hW ⟨Nat.zero_le _, Nat.zero_le _⟩ hdg
  · have hv : f_Dreach G S k x1 x2 = f_X8_reach G k x1 x2 := by simp only [f_Dreach, q, if_true, if_false, reduceIte, Nat.reduceEqDiff]
    rw [q] at h2
    exact s_runU (owner := RX7) (x := yX7_reach) (As := [.int x1, .int x2]) (rest := rest) (np := 2) E hK hI hBU hcl.2 ⟨h1, h2⟩ rfl (c_X8_reach l D K sh ad cy X B hcl S k hE G L O x1 x2 hv.symm) (s_cwO E.2.2.2.2.2.1 kyX8_reach (show 2 + 1 ≤ lv' by omega) u3_98 u3_101 u3_99 u3_120 u3_110 u3_122 ⟨by decide, by decide, by decide +kernel⟩) rfl hls rfl hW ⟨Nat.zero_le _, Nat.zero_le _⟩ hdg
  · have hv : f_Dreach G S k x1 x2 = f_X10_reach G k x1 x2 := by simp only [f_Dreach, q, if_true, if_false, reduceIte, Nat.reduceEqDiff]
    rw [q] at h2
    exact s_runU (owner := RX7) (x := yX7_reach) (As := [.int x1, .int x2]) (rest := rest) (np := 2) E hK hI hBU hcl.2 ⟨h1, h2⟩ rfl (c_X10_reach l D K sh ad cy X B hcl S k hE G L O x1 x2 hv.symm) (s_cwO E.2.2.2.2.2.1 kyX10_reach (show 2 + 1 ≤ lv' by omega) u3_98 u3_101 u3_99 u3_121 u3_117 u3_122 ⟨by decide, by decide, by decide +kernel⟩) rfl hls rfl hW ⟨Nat.zero_le _, Nat.zero_le _⟩ hdg
noncomputable def f_X7_canHold (G : Mem) (S : Nat → Nat) (e0 : Nat) (x1 : Int32) (x2 : Int32) : Int32 := (if (1 : Int32) < (f_Dreach G S e0 x1 x2) then (f_Dreach G S e0 x1 x2) else 1)
theorem kyX7_canHold : Ky yX7_canHold cX7_canHold 3 (some FieldType.int) 2 := ⟨u3_97, u1_16, by decide, by decide, by decide, by decide +kernel⟩
set_option maxHeartbeats 4000000 in
set_option maxRecDepth 100000 in
theorem c_X7_canHold (l : Launch) (D : va_G) (K : List Nat) (sh : Nat → Ent) (ad : Nat → Nat) (cy : Nat → ClassId) (X : va_W) (B : State → Prop) (hcl : Bcl (AS K ad X) B) (S : Nat → Nat) (e0 : Nat) (he0 : SgH S K sh e0) (G : Mem) (L : MemL) (O : MemO) (x1 : Int32) (x2 : Int32)  {vz : Int32} (hf : f_X7_canHold G S e0 x1 x2 = vz) : Met l yX7_canHold (wsU yX7_canHold cX7_canHold 3 (some FieldType.int)) (rmX 4 0 0) (va_Pc [.ref (ad e0), .int x1, .int x2] (PS D K sh ad cy X B G L O)) (QI (AS K ad X) (PH D K sh ad cy X G L O) vz) 0 0 (AS K ad X) := by
  refine s_met (by decide) (Nat.le_of_ble_eq_true rfl) ?_
  intro p e s m args below meth c ls H locs E hK hBs hnm hI hl
  have hl : lv_has ls 3 [(0, .ref (ad e0)), (1, .int x1), (2, .int x2)] := hl
  have E : Cx p s m args meth c RX7 cX7_canHold 3 (some FieldType.int) := E
  obtain ⟨hx, hb, hr, hml, hown, hu, hlocks⟩ := id E
  rw [f_X7_canHold] at hf
  refine lv_iconst (v := 1) hx hb dX7_canHold_0 (by decide) ?_
  refine lv_aload_n hx hb dX7_canHold_1 rfl (lv_at hl 0 rfl) ?_
  refine lv_iload_n hx hb dX7_canHold_2 rfl (lv_at hl 1 rfl) ?_
  refine lv_iload_n hx hb dX7_canHold_3 rfl (lv_at hl 2 rfl) ?_
  refine s_afI hI (r_RX7_19 l D K sh ad cy X B hcl S e0 (he0) x1 x2 E hK hI (s_B hcl hBs hI) (by decide) hl.1 (Nat.le_of_ble_eq_true rfl) dX7_canHold_4) (fun H locs hI => ?_)
  refine s_mmax (rest := []) E hl.1 u3_123 u2_59 u1_11 u2_60 (by decide) (Nat.le_of_ble_eq_true rfl) ⟨Nat.zero_le _, Nat.zero_le _⟩ dX7_canHold_7 ?_
  subst hf
  exact s_iret hx hb hr hI.2.2 hI.1 hlocks dX7_canHold_10
