noncomputable def f_X7_init (G : Mem) (e0 : Nat) (x1 : Int32) (x2 : Int32) (x3 : Int32) : Option (Mem) := bnd (up2 G e0 0 x1) (fun G1 => bnd (up2 G1 e0 1 x2) (fun G2 => bnd (up2 G2 e0 2 x3) (fun G3 => some G3)))
theorem kyX7_init : Ky yX7_init cX7_init 4 none 3 := ⟨u2_236, u1_16, by decide, by decide, by decide, by decide +kernel⟩
set_option maxHeartbeats 4000000 in
set_option maxRecDepth 100000 in
theorem c_X7_init (l : Launch) (D : va_G) (K : List Nat) (sh : Nat → Ent) (ad : Nat → Nat) (cy : Nat → ClassId) (X : va_W) (B : State → Prop) (hcl : Bcl (AS K ad X) B) (S : Nat → Nat) (e0 : Nat) (he0 : SgH S K sh e0) (G : Mem) (L : MemL) (O : MemO) (x1 : Int32) (x2 : Int32) (x3 : Int32) {Gz : Mem} (hf : f_X7_init G e0 x1 x2 x3 = some Gz) : Met l yX7_init (wsU yX7_init cX7_init 4 none) (rmX 1 0 0) (va_Pc [.ref (ad e0), .int x1, .int x2, .int x3] (PS D K sh ad cy X B G L O)) (QV (AS K ad X) (PH D K sh ad cy X Gz L O)) 0 0 (AS K ad X) := by
  refine s_met (by decide) (Nat.le_of_ble_eq_true rfl) ?_
  intro p e s m args below meth c ls H locs E hK hBs hnm hI hl
  have hl : lv_has ls 4 [(0, .ref (ad e0)), (1, .int x1), (2, .int x2), (3, .int x3)] := hl
  have E : Cx p s m args meth c RX7 cX7_init 4 none := E
  obtain ⟨hx, hb, hr, hml, hown, hu, hlocks⟩ := id E
  rw [f_X7_init] at hf
  refine lv_aload_n hx hb dX7_init_0 rfl (lv_at hl 0 rfl) ?_
  refine s_objI (rest := []) E hl.1 u2_237 u1_29 u1_30 (by decide) (Nat.le_of_ble_eq_true rfl) dX7_init_1 ?_
  refine lv_aload_n hx hb dX7_init_4 rfl (lv_at hl 0 rfl) ?_
  refine lv_iload_n hx hb dX7_init_5 rfl (lv_at hl 1 rfl) ?_
  obtain ⟨G1, eG1, hf⟩ := bnd_i hf
  refine s_putSgF E hnm hK hI (he0) 0 (by decide) u2_238 eG1 dX7_init_6 (fun H locs hI => ?_)
  refine lv_aload_n hx hb dX7_init_9 rfl (lv_at hl 0 rfl) ?_
  refine lv_iload_n hx hb dX7_init_10 rfl (lv_at hl 2 rfl) ?_
  obtain ⟨G2, eG2, hf⟩ := bnd_i hf
  refine s_putSgF E hnm hK hI (he0) 1 (by decide) u3_0 eG2 dX7_init_11 (fun H locs hI => ?_)
  refine lv_aload_n hx hb dX7_init_14 rfl (lv_at hl 0 rfl) ?_
  refine lv_iload_n hx hb dX7_init_15 rfl (lv_at hl 3 rfl) ?_
  obtain ⟨G3, eG3, hf⟩ := bnd_i hf
  refine s_putSgF E hnm hK hI (he0) 2 (by decide) u3_1 eG3 dX7_init_16 (fun H locs hI => ?_)
  cases hf
  exact s_vret hx hb hr hI.2.2 hI.1 hlocks dX7_init_19
noncomputable def f_X8_init (G : Mem) (e0 : Nat) (x1 : Int32) (x2 : Int32) (x3 : Int32) : Option (Mem) := bndO (f_X7_init G e0 x1 x2 x3) (fun G1 => some G1)
theorem kyX8_init : Ky yX8_init cX8_init 4 none 3 := ⟨u2_233, u1_17, by decide, by decide, by decide, by decide +kernel⟩
set_option maxHeartbeats 4000000 in
set_option maxRecDepth 100000 in
theorem c_X8_init (l : Launch) (D : va_G) (K : List Nat) (sh : Nat → Ent) (ad : Nat → Nat) (cy : Nat → ClassId) (X : va_W) (B : State → Prop) (hcl : Bcl (AS K ad X) B) (S : Nat → Nat) (e0 : Nat) (he0 : SgH S K sh e0) (G : Mem) (L : MemL) (O : MemO) (x1 : Int32) (x2 : Int32) (x3 : Int32) {Gz : Mem} (hf : f_X8_init G e0 x1 x2 x3 = some Gz) : Met l yX8_init (wsU yX8_init cX8_init 4 none) (rmX 2 0 0) (va_Pc [.ref (ad e0), .int x1, .int x2, .int x3] (PS D K sh ad cy X B G L O)) (QV (AS K ad X) (PH D K sh ad cy X Gz L O)) 0 0 (AS K ad X) := by
  refine s_met (by decide) (Nat.le_of_ble_eq_true rfl) ?_
  intro p e s m args below meth c ls H locs E hK hBs hnm hI hl
  have hl : lv_has ls 4 [(0, .ref (ad e0)), (1, .int x1), (2, .int x2), (3, .int x3)] := hl
  have E : Cx p s m args meth c RX8 cX8_init 4 none := E
  obtain ⟨hx, hb, hr, hml, hown, hu, hlocks⟩ := id E
  rw [f_X8_init] at hf
  refine lv_aload_n hx hb dX8_init_0 rfl (lv_at hl 0 rfl) ?_
  refine lv_iload_n hx hb dX8_init_1 rfl (lv_at hl 1 rfl) ?_
  refine lv_iload_n hx hb dX8_init_2 rfl (lv_at hl 2 rfl) ?_
  refine lv_iload_n hx hb dX8_init_3 rfl (lv_at hl 3 rfl) ?_
  obtain ⟨G1, h2, hf⟩ := bndO_i hf
  refine s_afV hI (s_runIp (rest := []) (As := [.int x1, .int x2, .int x3]) (np := 3) E hK hI (s_B hcl hBs hI) hcl.2 (c_X7_init l D K sh ad cy X B hcl S e0 he0 G L O x1 x2 x3 h2) kyX7_init u2_234 u2_235 rfl (by decide) rfl hl.1 rfl (Nat.le_of_ble_eq_true rfl) ⟨by decide, by decide⟩ dX8_init_4) (fun H locs hI => ?_)
  cases hf
  exact s_vret hx hb hr hI.2.2 hI.1 hlocks dX8_init_7
noncomputable def f_X10_init (G : Mem) (e0 : Nat) (x1 : Int32) (x2 : Int32) (x3 : Int32) : Option (Mem) := bndO (f_X7_init G e0 x1 x2 x3) (fun G1 => some G1)
theorem kyX10_init : Ky yX10_init cX10_init 4 none 3 := ⟨u3_18, u1_18, by decide, by decide, by decide, by decide +kernel⟩
set_option maxHeartbeats 4000000 in
set_option maxRecDepth 100000 in
theorem c_X10_init (l : Launch) (D : va_G) (K : List Nat) (sh : Nat → Ent) (ad : Nat → Nat) (cy : Nat → ClassId) (X : va_W) (B : State → Prop) (hcl : Bcl (AS K ad X) B) (S : Nat → Nat) (e0 : Nat) (he0 : SgH S K sh e0) (G : Mem) (L : MemL) (O : MemO) (x1 : Int32) (x2 : Int32) (x3 : Int32) {Gz : Mem} (hf : f_X10_init G e0 x1 x2 x3 = some Gz) : Met l yX10_init (wsU yX10_init cX10_init 4 none) (rmX 2 0 0) (va_Pc [.ref (ad e0), .int x1, .int x2, .int x3] (PS D K sh ad cy X B G L O)) (QV (AS K ad X) (PH D K sh ad cy X Gz L O)) 0 0 (AS K ad X) := by
  refine s_met (by decide) (Nat.le_of_ble_eq_true rfl) ?_
  intro p e s m args below meth c ls H locs E hK hBs hnm hI hl
  have hl : lv_has ls 4 [(0, .ref (ad e0)), (1, .int x1), (2, .int x2), (3, .int x3)] := hl
  have E : Cx p s m args meth c RX10 cX10_init 4 none := E
  obtain ⟨hx, hb, hr, hml, hown, hu, hlocks⟩ := id E
  rw [f_X10_init] at hf
  refine lv_aload_n hx hb dX10_init_0 rfl (lv_at hl 0 rfl) ?_
  refine lv_iload_n hx hb dX10_init_1 rfl (lv_at hl 1 rfl) ?_
  refine lv_iload_n hx hb dX10_init_2 rfl (lv_at hl 2 rfl) ?_
  refine lv_iload_n hx hb dX10_init_3 rfl (lv_at hl 3 rfl) ?_
  obtain ⟨G1, h2, hf⟩ := bndO_i hf
  refine s_afV hI (s_runIp (rest := []) (As := [.int x1, .int x2, .int x3]) (np := 3) E hK hI (s_B hcl hBs hI) hcl.2 (c_X7_init l D K sh ad cy X B hcl S e0 he0 G L O x1 x2 x3 h2) kyX7_init u3_19 u2_235 rfl (by decide) rfl hl.1 rfl (Nat.le_of_ble_eq_true rfl) ⟨by decide, by decide⟩ dX10_init_4) (fun H locs hI => ?_)
  cases hf
  exact s_vret hx hb hr hI.2.2 hI.1 hlocks dX10_init_7
noncomputable def f_X3_init (G : Mem) (e0 : Nat) (x1 : Int32) (x2 : Int32) (x3 : Int32) : Option (Mem) := bndO (f_X10_init G e0 x1 x2 x3) (fun G1 => some G1)
theorem kyX3_init : Ky yX3_init cX3_init 4 none 3 := ⟨u3_28, u1_19, by decide, by decide, by decide, by decide +kernel⟩
set_option maxHeartbeats 4000000 in
set_option maxRecDepth 100000 in
theorem c_X3_init (l : Launch) (D : va_G) (K : List Nat) (sh : Nat → Ent) (ad : Nat → Nat) (cy : Nat → ClassId) (X : va_W) (B : State → Prop) (hcl : Bcl (AS K ad X) B) (S : Nat → Nat) (e0 : Nat) (he0 : SgH S K sh e0) (G : Mem) (L : MemL) (O : MemO) (x1 : Int32) (x2 : Int32) (x3 : Int32) {Gz : Mem} (hf : f_X3_init G e0 x1 x2 x3 = some Gz) : Met l yX3_init (wsU yX3_init cX3_init 4 none) (rmX 3 0 0) (va_Pc [.ref (ad e0), .int x1, .int x2, .int x3] (PS D K sh ad cy X B G L O)) (QV (AS K ad X) (PH D K sh ad cy X Gz L O)) 0 0 (AS K ad X) := by
  refine s_met (by decide) (Nat.le_of_ble_eq_true rfl) ?_
  intro p e s m args below meth c ls H locs E hK hBs hnm hI hl
  have hl : lv_has ls 4 [(0, .ref (ad e0)), (1, .int x1), (2, .int x2), (3, .int x3)] := hl
  have E : Cx p s m args meth c RX3 cX3_init 4 none := E
  obtain ⟨hx, hb, hr, hml, hown, hu, hlocks⟩ := id E
  rw [f_X3_init] at hf
  refine lv_aload_n hx hb dX3_init_0 rfl (lv_at hl 0 rfl) ?_
  refine lv_iload_n hx hb dX3_init_1 rfl (lv_at hl 1 rfl) ?_
  refine lv_iload_n hx hb dX3_init_2 rfl (lv_at hl 2 rfl) ?_
  refine lv_iload_n hx hb dX3_init_3 rfl (lv_at hl 3 rfl) ?_
  obtain ⟨G1, h2, hf⟩ := bndO_i hf
  refine s_afV hI (s_runIp (rest := []) (As := [.int x1, .int x2, .int x3]) (np := 3) E hK hI (s_B hcl hBs hI) hcl.2 (c_X10_init l D K sh ad cy X B hcl S e0 he0 G L O x1 x2 x3 h2) kyX10_init u3_29 u3_17 rfl (by decide) rfl hl.1 rfl (Nat.le_of_ble_eq_true rfl) ⟨by decide, by decide⟩ dX3_init_4) (fun H locs hI => ?_)
  cases hf
  exact s_vret hx hb hr hI.2.2 hI.1 hlocks dX3_init_7
noncomputable def f_X2_init (G : Mem) (e0 : Nat) (x1 : Int32) (x2 : Int32) (x3 : Int32) : Option (Mem) := bndO (f_X8_init G e0 x1 x2 x3) (fun G1 => some G1)
theorem kyX2_init : Ky yX2_init cX2_init 4 none 3 := ⟨u3_38, u1_20, by decide, by decide, by decide, by decide +kernel⟩
set_option maxHeartbeats 4000000 in
set_option maxRecDepth 100000 in
theorem c_X2_init (l : Launch) (D : va_G) (K : List Nat) (sh : Nat → Ent) (ad : Nat → Nat) (cy : Nat → ClassId) (X : va_W) (B : State → Prop) (hcl : Bcl (AS K ad X) B) (S : Nat → Nat) (e0 : Nat) (he0 : SgH S K sh e0) (G : Mem) (L : MemL) (O : MemO) (x1 : Int32) (x2 : Int32) (x3 : Int32) {Gz : Mem} (hf : f_X2_init G e0 x1 x2 x3 = some Gz) : Met l yX2_init (wsU yX2_init cX2_init 4 none) (rmX 3 0 0) (va_Pc [.ref (ad e0), .int x1, .int x2, .int x3] (PS D K sh ad cy X B G L O)) (QV (AS K ad X) (PH D K sh ad cy X Gz L O)) 0 0 (AS K ad X) := by
  refine s_met (by decide) (Nat.le_of_ble_eq_true rfl) ?_
  intro p e s m args below meth c ls H locs E hK hBs hnm hI hl
  have hl : lv_has ls 4 [(0, .ref (ad e0)), (1, .int x1), (2, .int x2), (3, .int x3)] := hl
  have E : Cx p s m args meth c RX2 cX2_init 4 none := E
  obtain ⟨hx, hb, hr, hml, hown, hu, hlocks⟩ := id E
  rw [f_X2_init] at hf
  refine lv_aload_n hx hb dX2_init_0 rfl (lv_at hl 0 rfl) ?_
  refine lv_iload_n hx hb dX2_init_1 rfl (lv_at hl 1 rfl) ?_
  refine lv_iload_n hx hb dX2_init_2 rfl (lv_at hl 2 rfl) ?_
  refine lv_iload_n hx hb dX2_init_3 rfl (lv_at hl 3 rfl) ?_
  obtain ⟨G1, h2, hf⟩ := bndO_i hf
  refine s_afV hI (s_runIp (rest := []) (As := [.int x1, .int x2, .int x3]) (np := 3) E hK hI (s_B hcl hBs hI) hcl.2 (c_X8_init l D K sh ad cy X B hcl S e0 he0 G L O x1 x2 x3 h2) kyX8_init u3_39 u2_232 rfl (by decide) rfl hl.1 rfl (Nat.le_of_ble_eq_true rfl) ⟨by decide, by decide⟩ dX2_init_4) (fun H locs hI => ?_)
  cases hf
  exact s_vret hx hb hr hI.2.2 hI.1 hlocks dX2_init_7
noncomputable def f_X0_init (G : Mem) (e0 : Nat) (x1 : Int32) (x2 : Int32) (x3 : Int32) : Option (Mem) := bndO (f_X7_init G e0 x1 x2 x3) (fun G1 => some G1)
theorem kyX0_init : Ky yX0_init cX0_init 4 none 3 := ⟨u3_48, u1_21, by decide, by decide, by decide, by decide +kernel⟩
set_option maxHeartbeats 4000000 in
set_option maxRecDepth 100000 in
theorem c_X0_init (l : Launch) (D : va_G) (K : List Nat) (sh : Nat → Ent) (ad : Nat → Nat) (cy : Nat → ClassId) (X : va_W) (B : State → Prop) (hcl : Bcl (AS K ad X) B) (S : Nat → Nat) (e0 : Nat) (he0 : SgH S K sh e0) (G : Mem) (L : MemL) (O : MemO) (x1 : Int32) (x2 : Int32) (x3 : Int32) {Gz : Mem} (hf : f_X0_init G e0 x1 x2 x3 = some Gz) : Met l yX0_init (wsU yX0_init cX0_init 4 none) (rmX 2 0 0) (va_Pc [.ref (ad e0), .int x1, .int x2, .int x3] (PS D K sh ad cy X B G L O)) (QV (AS K ad X) (PH D K sh ad cy X Gz L O)) 0 0 (AS K ad X) := by
  refine s_met (by decide) (Nat.le_of_ble_eq_true rfl) ?_
  intro p e s m args below meth c ls H locs E hK hBs hnm hI hl
  have hl : lv_has ls 4 [(0, .ref (ad e0)), (1, .int x1), (2, .int x2), (3, .int x3)] := hl
  have E : Cx p s m args meth c RX0 cX0_init 4 none := E
  obtain ⟨hx, hb, hr, hml, hown, hu, hlocks⟩ := id E
  rw [f_X0_init] at hf
  refine lv_aload_n hx hb dX0_init_0 rfl (lv_at hl 0 rfl) ?_
  refine lv_iload_n hx hb dX0_init_1 rfl (lv_at hl 1 rfl) ?_
  refine lv_iload_n hx hb dX0_init_2 rfl (lv_at hl 2 rfl) ?_
  refine lv_iload_n hx hb dX0_init_3 rfl (lv_at hl 3 rfl) ?_
  obtain ⟨G1, h2, hf⟩ := bndO_i hf
  refine s_afV hI (s_runIp (rest := []) (As := [.int x1, .int x2, .int x3]) (np := 3) E hK hI (s_B hcl hBs hI) hcl.2 (c_X7_init l D K sh ad cy X B hcl S e0 he0 G L O x1 x2 x3 h2) kyX7_init u3_49 u2_235 rfl (by decide) rfl hl.1 rfl (Nat.le_of_ble_eq_true rfl) ⟨by decide, by decide⟩ dX0_init_4) (fun H locs hI => ?_)
  cases hf
  exact s_vret hx hb hr hI.2.2 hI.1 hlocks dX0_init_7
noncomputable def f_X11_newSinger (en : Nat) (G : Mem) (O : MemO) (x0 : Int32) (x1 : Int32) (x2 : Int32) (x3 : Int32) : Option (Mem × MemO) := (if x0 = 1 then bnd (zr 0 G en) (fun G2 => bnd (zr none O en) (fun O3 => bndO (f_X8_init G2 en x1 x2 x3) (fun G5 => some (G5, O3)))) else if x0 = 2 then bnd (zr 0 G en) (fun G8 => bnd (zr none O en) (fun O9 => bndO (f_X10_init G8 en x1 x2 x3) (fun G11 => some (G11, O9)))) else if x0 = 3 then bnd (zr 0 G en) (fun G14 => bnd (zr none O en) (fun O15 => bndO (f_X3_init G14 en x1 x2 x3) (fun G17 => some (G17, O15)))) else if x0 = 4 then bnd (zr 0 G en) (fun G20 => bnd (zr none O en) (fun O21 => bndO (f_X2_init G20 en x1 x2 x3) (fun G23 => some (G23, O21)))) else if x0 = 5 then bnd (zr 0 G en) (fun G26 => bnd (zr none O en) (fun O27 => bndO (f_X0_init G26 en x1 x2 x3) (fun G29 => some (G29, O27)))) else bnd (zr 0 G en) (fun G31 => bnd (zr none O en) (fun O32 => bndO (f_X7_init G31 en x1 x2 x3) (fun G34 => some (G34, O32)))))
theorem kyX11_newSinger : Ky yX11_newSinger cX11_newSinger 4 (some (FieldType.object "NobodyBreathes$Singer")) 4 := ⟨u2_228, u1_1, by decide, by decide, by decide, by decide +kernel⟩
set_option maxHeartbeats 4000000 in
set_option maxRecDepth 100000 in
theorem c_X11_newSinger (l : Launch) (D : va_G) (K : List Nat) (sh : Nat → Ent) (ad : Nat → Nat) (cy : Nat → ClassId) (X : va_W) (B : State → Prop) (sz : Nat) (hclA : Bcl (AZ K ad X sz) B) (hCl : Cl K sh) (S : Nat → Nat) (en : Nat) (hshe : sh en = (0, S en, [0, 0, 0])) (hsg : sgE S en = true) (hne : en ∉ K)  (G : Mem) (L : MemL) (O : MemO) (x0 : Int32) (x1 : Int32) (x2 : Int32) (x3 : Int32) {Gz : Mem} {Oz : MemO} (hs1 : x0 = 1 → S en = 8) (hs2 : x0 = 2 → S en = 10) (hs3 : x0 = 3 → S en = 3) (hs4 : x0 = 4 → S en = 2) (hs5 : x0 = 5 → S en = 0) (hs0 : ¬ x0 = 1 → ¬ x0 = 2 → ¬ x0 = 3 → ¬ x0 = 4 → ¬ x0 = 5 → S en = 7) (hOR : ORf K O) (hf : f_X11_newSinger en G O x0 x1 x2 x3 = some (Gz, Oz)) : Met l yX11_newSinger (wsU yX11_newSinger cX11_newSinger 4 (some (FieldType.object "NobodyBreathes$Singer"))) (rmX 4 1 3) (va_Pc [.int x0, .int x1, .int x2, .int x3] (PZ sz D K sh ad cy X B G L O)) (QZ D K ad cy X (AZ K ad X sz) (K ++ [en]) (fun z => z = sh) Gz L Oz (fun a => some (.ref (a en)))) 1 3 (AZ K ad X sz) := by
  refine s_metZ (by decide) (Nat.le_of_ble_eq_true rfl) ?_
  intro p e s m args below meth c ls H locs A0 eA0 hA E hK hBs hnm hI hl
  rw [← eA0] at hclA
  rw [← eA0]
  have hsub : ∀ b ∈ K, b ∈ K := fun b hb => hb
  have had : ∀ b ∈ K, ad b = ad b := fun b hb => rfl
  have hl : lv_has ls 4 [(0, .int x0), (1, .int x1), (2, .int x2), (3, .int x3)] := hl
  have E : Cx p s m args meth c RX11 cX11_newSinger 4 (some (FieldType.object "NobodyBreathes$Singer")) := E
  obtain ⟨hx, hb, hr, hml, hown, hu, hlocks⟩ := id E
  rw [f_X11_newSinger] at hf
  refine lv_iload_n hx hb dX11_newSinger_0 rfl (lv_at hl 0 rfl) ?_
  by_cases c1 : x0 = 1
  · have hf := ite_t c1 hf
    refine s_tbl (tgt := 36) 1 E dX11_newSinger_1 c1 (by decide) (by decide) rfl (by decide) ?_
    obtain ⟨G2, eG2, hf⟩ := bnd_i hf
    obtain ⟨O3, eO3, hf⟩ := bnd_i hf
    refine s_newObj E inU8 tyX8_ok u2_229 u2_230 u1_17 hK hI hA rfl en (fr_of hCl hOR hne) (show sh en = (0, 8, [0, 0, 0]) by rw [hshe, (hs1 ‹x0 = 1›)]) rfl (by decide +kernel) ⟨by decide, by decide⟩ dX11_newSinger_36 (fun q H hI => ?_)
    rw [← eG2, ← eO3] at hI
    have hOR := hOR.zr en
    rw [← eO3] at hOR
    obtain ⟨K4, eK4⟩ : ∃ z, z = K ++ [en] := ⟨_, rfl⟩
    obtain ⟨ad4, ea4⟩ : ∃ z, z = adU ad en q := ⟨_, rfl⟩
    rw [← eK4, ← ea4] at hI
    have hin4 : ∀ b ∈ K, b ∈ K4 := fun b hb => by rw [eK4]; exact List.mem_append_left _ hb
    have hk4 : en ∈ K4 := by rw [eK4]; exact List.mem_append_right _ (List.mem_singleton.mpr rfl)
    have hq4 : q = ad4 en := by rw [ea4]; exact adU_k.symm
    have had4 : ∀ b ∈ K, ad4 b = ad b := fun b hb => by rw [ea4]; exact adU_in hb hne
    have had : ∀ b ∈ K, ad4 b = ad b := fun b hb => (had4 b (hsub b hb)).trans (had b hb)
    have hsub : ∀ b ∈ K, b ∈ K4 := fun b hb => hin4 b (hsub b hb)
    have hcl : Bcl (AS K4 ad4 X) B := hclA.mono (AS_D hI.2.1)
    have hm_en := hk4
    have hCl : Cl K4 sh := by rw [eK4]; exact hCl.push (by rw [(show sh en = (0, 8, [0, 0, 0]) by rw [hshe, (hs1 ‹x0 = 1›)])]; simp)
    have hOR : ORf K4 O3 := hOR.mono hin4
    rw [hq4]
    refine lv_dup hx hb dX11_newSinger_39 rfl ?_
    refine lv_iload_n hx hb dX11_newSinger_40 rfl (lv_at hl 1 rfl) ?_
    refine lv_iload_n hx hb dX11_newSinger_41 rfl (lv_at hl 2 rfl) ?_
    refine lv_iload_n hx hb dX11_newSinger_42 rfl (lv_at hl 3 rfl) ?_
    obtain ⟨G5, h6, hf⟩ := bndO_i hf
    refine s_afV hI (s_runIp (rest := [.ref (ad4 en)]) (As := [.int x1, .int x2, .int x3]) (np := 3) E hK hI (s_B hclA hBs hI) hcl.2 (c_X8_init l D K4 sh ad4 cy X B hcl S en ⟨⟨hm_en, hshe⟩, hsg⟩ G2 L O3 x1 x2 x3 h6) kyX8_init u2_231 u2_232 rfl (by decide) rfl hl.1 rfl (Nat.le_of_ble_eq_true rfl) ⟨by decide, by decide⟩ dX11_newSinger_43) (fun H locs hI => ?_)
    cases hf
    subst eK4
    exact s_aretZ E (Or.inl ⟨_, rfl⟩) (Or.inr ⟨_, rfl⟩) had rfl rfl hI dX11_newSinger_46
  · have hf := ite_f c1 hf
    by_cases c7 : x0 = 2
    · have hf := ite_t c7 hf
      refine s_tbl (tgt := 47) 2 E dX11_newSinger_1 c7 (by decide) (by decide) rfl (by decide) ?_
      obtain ⟨G8, eG8, hf⟩ := bnd_i hf
      obtain ⟨O9, eO9, hf⟩ := bnd_i hf
      refine s_newObj E inU10 tyX10_ok u3_14 u3_15 u1_18 hK hI hA rfl en (fr_of hCl hOR hne) (show sh en = (0, 10, [0, 0, 0]) by rw [hshe, (hs2 ‹x0 = 2›)]) rfl (by decide +kernel) ⟨by decide, by decide⟩ dX11_newSinger_47 (fun q H hI => ?_)
      rw [← eG8, ← eO9] at hI
      have hOR := hOR.zr en
      rw [← eO9] at hOR
      obtain ⟨K10, eK10⟩ : ∃ z, z = K ++ [en] := ⟨_, rfl⟩
      obtain ⟨ad10, ea10⟩ : ∃ z, z = adU ad en q := ⟨_, rfl⟩
      rw [← eK10, ← ea10] at hI
      have hin10 : ∀ b ∈ K, b ∈ K10 := fun b hb => by rw [eK10]; exact List.mem_append_left _ hb
      have hk10 : en ∈ K10 := by rw [eK10]; exact List.mem_append_right _ (List.mem_singleton.mpr rfl)
      have hq10 : q = ad10 en := by rw [ea10]; exact adU_k.symm
      have had10 : ∀ b ∈ K, ad10 b = ad b := fun b hb => by rw [ea10]; exact adU_in hb hne
      have had : ∀ b ∈ K, ad10 b = ad b := fun b hb => (had10 b (hsub b hb)).trans (had b hb)
      have hsub : ∀ b ∈ K, b ∈ K10 := fun b hb => hin10 b (hsub b hb)
      have hcl : Bcl (AS K10 ad10 X) B := hclA.mono (AS_D hI.2.1)
      have hm_en := hk10
      have hCl : Cl K10 sh := by rw [eK10]; exact hCl.push (by rw [(show sh en = (0, 10, [0, 0, 0]) by rw [hshe, (hs2 ‹x0 = 2›)])]; simp)
      have hOR : ORf K10 O9 := hOR.mono hin10
      rw [hq10]
      refine lv_dup hx hb dX11_newSinger_50 rfl ?_
      refine lv_iload_n hx hb dX11_newSinger_51 rfl (lv_at hl 1 rfl) ?_
      refine lv_iload_n hx hb dX11_newSinger_52 rfl (lv_at hl 2 rfl) ?_
      refine lv_iload_n hx hb dX11_newSinger_53 rfl (lv_at hl 3 rfl) ?_
      obtain ⟨G11, h12, hf⟩ := bndO_i hf
      refine s_afV hI (s_runIp (rest := [.ref (ad10 en)]) (As := [.int x1, .int x2, .int x3]) (np := 3) E hK hI (s_B hclA hBs hI) hcl.2 (c_X10_init l D K10 sh ad10 cy X B hcl S en ⟨⟨hm_en, hshe⟩, hsg⟩ G8 L O9 x1 x2 x3 h12) kyX10_init u3_16 u3_17 rfl (by decide) rfl hl.1 rfl (Nat.le_of_ble_eq_true rfl) ⟨by decide, by decide⟩ dX11_newSinger_54) (fun H locs hI => ?_)
      cases hf
      subst eK10
      exact s_aretZ E (Or.inl ⟨_, rfl⟩) (Or.inr ⟨_, rfl⟩) had rfl rfl hI dX11_newSinger_57
    · have hf := ite_f c7 hf
      by_cases c13 : x0 = 3
      · have hf := ite_t c13 hf
        refine s_tbl (tgt := 58) 3 E dX11_newSinger_1 c13 (by decide) (by decide) rfl (by decide) ?_
        obtain ⟨G14, eG14, hf⟩ := bnd_i hf
        obtain ⟨O15, eO15, hf⟩ := bnd_i hf
        refine s_newObj E inU3 tyX3_ok u3_24 u3_25 u1_19 hK hI hA rfl en (fr_of hCl hOR hne) (show sh en = (0, 3, [0, 0, 0]) by rw [hshe, (hs3 ‹x0 = 3›)]) rfl (by decide +kernel) ⟨by decide, by decide⟩ dX11_newSinger_58 (fun q H hI => ?_)
        rw [← eG14, ← eO15] at hI
        have hOR := hOR.zr en
        rw [← eO15] at hOR
        obtain ⟨K16, eK16⟩ : ∃ z, z = K ++ [en] := ⟨_, rfl⟩
        obtain ⟨ad16, ea16⟩ : ∃ z, z = adU ad en q := ⟨_, rfl⟩
        rw [← eK16, ← ea16] at hI
        have hin16 : ∀ b ∈ K, b ∈ K16 := fun b hb => by rw [eK16]; exact List.mem_append_left _ hb
        have hk16 : en ∈ K16 := by rw [eK16]; exact List.mem_append_right _ (List.mem_singleton.mpr rfl)
        have hq16 : q = ad16 en := by rw [ea16]; exact adU_k.symm
        have had16 : ∀ b ∈ K, ad16 b = ad b := fun b hb => by rw [ea16]; exact adU_in hb hne
        have had : ∀ b ∈ K, ad16 b = ad b := fun b hb => (had16 b (hsub b hb)).trans (had b hb)
        have hsub : ∀ b ∈ K, b ∈ K16 := fun b hb => hin16 b (hsub b hb)
        have hcl : Bcl (AS K16 ad16 X) B := hclA.mono (AS_D hI.2.1)
        have hm_en := hk16
        have hCl : Cl K16 sh := by rw [eK16]; exact hCl.push (by rw [(show sh en = (0, 3, [0, 0, 0]) by rw [hshe, (hs3 ‹x0 = 3›)])]; simp)
        have hOR : ORf K16 O15 := hOR.mono hin16
        rw [hq16]
        refine lv_dup hx hb dX11_newSinger_61 rfl ?_
        refine lv_iload_n hx hb dX11_newSinger_62 rfl (lv_at hl 1 rfl) ?_
        refine lv_iload_n hx hb dX11_newSinger_63 rfl (lv_at hl 2 rfl) ?_
        refine lv_iload_n hx hb dX11_newSinger_64 rfl (lv_at hl 3 rfl) ?_
        obtain ⟨G17, h18, hf⟩ := bndO_i hf
        refine s_afV hI (s_runIp (rest := [.ref (ad16 en)]) (As := [.int x1, .int x2, .int x3]) (np := 3) E hK hI (s_B hclA hBs hI) hcl.2 (c_X3_init l D K16 sh ad16 cy X B hcl S en ⟨⟨hm_en, hshe⟩, hsg⟩ G14 L O15 x1 x2 x3 h18) kyX3_init u3_26 u3_27 rfl (by decide) rfl hl.1 rfl (Nat.le_of_ble_eq_true rfl) ⟨by decide, by decide⟩ dX11_newSinger_65) (fun H locs hI => ?_)
        cases hf
        subst eK16
        exact s_aretZ E (Or.inl ⟨_, rfl⟩) (Or.inr ⟨_, rfl⟩) had rfl rfl hI dX11_newSinger_68
      · have hf := ite_f c13 hf
        by_cases c19 : x0 = 4
        · have hf := ite_t c19 hf
          refine s_tbl (tgt := 69) 4 E dX11_newSinger_1 c19 (by decide) (by decide) rfl (by decide) ?_
          obtain ⟨G20, eG20, hf⟩ := bnd_i hf
          obtain ⟨O21, eO21, hf⟩ := bnd_i hf
          refine s_newObj E inU2 tyX2_ok u3_34 u3_35 u1_20 hK hI hA rfl en (fr_of hCl hOR hne) (show sh en = (0, 2, [0, 0, 0]) by rw [hshe, (hs4 ‹x0 = 4›)]) rfl (by decide +kernel) ⟨by decide, by decide⟩ dX11_newSinger_69 (fun q H hI => ?_)
          rw [← eG20, ← eO21] at hI
          have hOR := hOR.zr en
          rw [← eO21] at hOR
          obtain ⟨K22, eK22⟩ : ∃ z, z = K ++ [en] := ⟨_, rfl⟩
          obtain ⟨ad22, ea22⟩ : ∃ z, z = adU ad en q := ⟨_, rfl⟩
          rw [← eK22, ← ea22] at hI
          have hin22 : ∀ b ∈ K, b ∈ K22 := fun b hb => by rw [eK22]; exact List.mem_append_left _ hb
          have hk22 : en ∈ K22 := by rw [eK22]; exact List.mem_append_right _ (List.mem_singleton.mpr rfl)
          have hq22 : q = ad22 en := by rw [ea22]; exact adU_k.symm
          have had22 : ∀ b ∈ K, ad22 b = ad b := fun b hb => by rw [ea22]; exact adU_in hb hne
          have had : ∀ b ∈ K, ad22 b = ad b := fun b hb => (had22 b (hsub b hb)).trans (had b hb)
          have hsub : ∀ b ∈ K, b ∈ K22 := fun b hb => hin22 b (hsub b hb)
          have hcl : Bcl (AS K22 ad22 X) B := hclA.mono (AS_D hI.2.1)
          have hm_en := hk22
          have hCl : Cl K22 sh := by rw [eK22]; exact hCl.push (by rw [(show sh en = (0, 2, [0, 0, 0]) by rw [hshe, (hs4 ‹x0 = 4›)])]; simp)
          have hOR : ORf K22 O21 := hOR.mono hin22
          rw [hq22]
          refine lv_dup hx hb dX11_newSinger_72 rfl ?_
          refine lv_iload_n hx hb dX11_newSinger_73 rfl (lv_at hl 1 rfl) ?_
          refine lv_iload_n hx hb dX11_newSinger_74 rfl (lv_at hl 2 rfl) ?_
          refine lv_iload_n hx hb dX11_newSinger_75 rfl (lv_at hl 3 rfl) ?_
          obtain ⟨G23, h24, hf⟩ := bndO_i hf
          refine s_afV hI (s_runIp (rest := [.ref (ad22 en)]) (As := [.int x1, .int x2, .int x3]) (np := 3) E hK hI (s_B hclA hBs hI) hcl.2 (c_X2_init l D K22 sh ad22 cy X B hcl S en ⟨⟨hm_en, hshe⟩, hsg⟩ G20 L O21 x1 x2 x3 h24) kyX2_init u3_36 u3_37 rfl (by decide) rfl hl.1 rfl (Nat.le_of_ble_eq_true rfl) ⟨by decide, by decide⟩ dX11_newSinger_76) (fun H locs hI => ?_)
          cases hf
          subst eK22
          exact s_aretZ E (Or.inl ⟨_, rfl⟩) (Or.inr ⟨_, rfl⟩) had rfl rfl hI dX11_newSinger_79
        · have hf := ite_f c19 hf
          by_cases c25 : x0 = 5
          · have hf := ite_t c25 hf
            refine s_tbl (tgt := 80) 5 E dX11_newSinger_1 c25 (by decide) (by decide) rfl (by decide) ?_
            obtain ⟨G26, eG26, hf⟩ := bnd_i hf
            obtain ⟨O27, eO27, hf⟩ := bnd_i hf
            refine s_newObj E inU0 tyX0_ok u3_44 u3_45 u1_21 hK hI hA rfl en (fr_of hCl hOR hne) (show sh en = (0, 0, [0, 0, 0]) by rw [hshe, (hs5 ‹x0 = 5›)]) rfl (by decide +kernel) ⟨by decide, by decide⟩ dX11_newSinger_80 (fun q H hI => ?_)
            rw [← eG26, ← eO27] at hI
            have hOR := hOR.zr en
            rw [← eO27] at hOR
            obtain ⟨K28, eK28⟩ : ∃ z, z = K ++ [en] := ⟨_, rfl⟩
            obtain ⟨ad28, ea28⟩ : ∃ z, z = adU ad en q := ⟨_, rfl⟩
            rw [← eK28, ← ea28] at hI
            have hin28 : ∀ b ∈ K, b ∈ K28 := fun b hb => by rw [eK28]; exact List.mem_append_left _ hb
            have hk28 : en ∈ K28 := by rw [eK28]; exact List.mem_append_right _ (List.mem_singleton.mpr rfl)
            have hq28 : q = ad28 en := by rw [ea28]; exact adU_k.symm
            have had28 : ∀ b ∈ K, ad28 b = ad b := fun b hb => by rw [ea28]; exact adU_in hb hne
            have had : ∀ b ∈ K, ad28 b = ad b := fun b hb => (had28 b (hsub b hb)).trans (had b hb)
            have hsub : ∀ b ∈ K, b ∈ K28 := fun b hb => hin28 b (hsub b hb)
            have hcl : Bcl (AS K28 ad28 X) B := hclA.mono (AS_D hI.2.1)
            have hm_en := hk28
            have hCl : Cl K28 sh := by rw [eK28]; exact hCl.push (by rw [(show sh en = (0, 0, [0, 0, 0]) by rw [hshe, (hs5 ‹x0 = 5›)])]; simp)
            have hOR : ORf K28 O27 := hOR.mono hin28
            rw [hq28]
            refine lv_dup hx hb dX11_newSinger_83 rfl ?_
            refine lv_iload_n hx hb dX11_newSinger_84 rfl (lv_at hl 1 rfl) ?_
            refine lv_iload_n hx hb dX11_newSinger_85 rfl (lv_at hl 2 rfl) ?_
            refine lv_iload_n hx hb dX11_newSinger_86 rfl (lv_at hl 3 rfl) ?_
            obtain ⟨G29, h30, hf⟩ := bndO_i hf
            refine s_afV hI (s_runIp (rest := [.ref (ad28 en)]) (As := [.int x1, .int x2, .int x3]) (np := 3) E hK hI (s_B hclA hBs hI) hcl.2 (c_X0_init l D K28 sh ad28 cy X B hcl S en ⟨⟨hm_en, hshe⟩, hsg⟩ G26 L O27 x1 x2 x3 h30) kyX0_init u3_46 u3_47 rfl (by decide) rfl hl.1 rfl (Nat.le_of_ble_eq_true rfl) ⟨by decide, by decide⟩ dX11_newSinger_87) (fun H locs hI => ?_)
            cases hf
            subst eK28
            exact s_aretZ E (Or.inl ⟨_, rfl⟩) (Or.inr ⟨_, rfl⟩) had rfl rfl hI dX11_newSinger_90
          · have hf := ite_f c25 hf
            refine lv_tableOut (tgt := 91) hx hb dX11_newSinger_1 (by have q0 := lv_neT c1 (show (1 : Int32).toInt = 1 from rfl); have q1 := lv_neT c7 (show (2 : Int32).toInt = 2 from rfl); have q2 := lv_neT c13 (show (3 : Int32).toInt = 3 from rfl); have q3 := lv_neT c19 (show (4 : Int32).toInt = 4 from rfl); have q4 := lv_neT c25 (show (5 : Int32).toInt = 5 from rfl); omega) (by decide) ?_
            obtain ⟨G31, eG31, hf⟩ := bnd_i hf
            obtain ⟨O32, eO32, hf⟩ := bnd_i hf
            refine s_newObj E inU7 tyX7_ok u1_81 u3_54 u1_16 hK hI hA rfl en (fr_of hCl hOR hne) (show sh en = (0, 7, [0, 0, 0]) by rw [hshe, (hs0 ‹¬ x0 = 1› ‹¬ x0 = 2› ‹¬ x0 = 3› ‹¬ x0 = 4› ‹¬ x0 = 5›)]) rfl (by decide +kernel) ⟨by decide, by decide⟩ dX11_newSinger_91 (fun q H hI => ?_)
            rw [← eG31, ← eO32] at hI
            have hOR := hOR.zr en
            rw [← eO32] at hOR
            obtain ⟨K33, eK33⟩ : ∃ z, z = K ++ [en] := ⟨_, rfl⟩
            obtain ⟨ad33, ea33⟩ : ∃ z, z = adU ad en q := ⟨_, rfl⟩
            rw [← eK33, ← ea33] at hI
            have hin33 : ∀ b ∈ K, b ∈ K33 := fun b hb => by rw [eK33]; exact List.mem_append_left _ hb
            have hk33 : en ∈ K33 := by rw [eK33]; exact List.mem_append_right _ (List.mem_singleton.mpr rfl)
            have hq33 : q = ad33 en := by rw [ea33]; exact adU_k.symm
            have had33 : ∀ b ∈ K, ad33 b = ad b := fun b hb => by rw [ea33]; exact adU_in hb hne
            have had : ∀ b ∈ K, ad33 b = ad b := fun b hb => (had33 b (hsub b hb)).trans (had b hb)
            have hsub : ∀ b ∈ K, b ∈ K33 := fun b hb => hin33 b (hsub b hb)
            have hcl : Bcl (AS K33 ad33 X) B := hclA.mono (AS_D hI.2.1)
            have hm_en := hk33
            have hCl : Cl K33 sh := by rw [eK33]; exact hCl.push (by rw [(show sh en = (0, 7, [0, 0, 0]) by rw [hshe, (hs0 ‹¬ x0 = 1› ‹¬ x0 = 2› ‹¬ x0 = 3› ‹¬ x0 = 4› ‹¬ x0 = 5›)])]; simp)
            have hOR : ORf K33 O32 := hOR.mono hin33
            rw [hq33]
            refine lv_dup hx hb dX11_newSinger_94 rfl ?_
            refine lv_iload_n hx hb dX11_newSinger_95 rfl (lv_at hl 1 rfl) ?_
            refine lv_iload_n hx hb dX11_newSinger_96 rfl (lv_at hl 2 rfl) ?_
            refine lv_iload_n hx hb dX11_newSinger_97 rfl (lv_at hl 3 rfl) ?_
            obtain ⟨G34, h35, hf⟩ := bndO_i hf
            refine s_afV hI (s_runIp (rest := [.ref (ad33 en)]) (As := [.int x1, .int x2, .int x3]) (np := 3) E hK hI (s_B hclA hBs hI) hcl.2 (c_X7_init l D K33 sh ad33 cy X B hcl S en ⟨⟨hm_en, hshe⟩, hsg⟩ G31 L O32 x1 x2 x3 h35) kyX7_init u3_55 u2_235 rfl (by decide) rfl hl.1 rfl (Nat.le_of_ble_eq_true rfl) ⟨by decide, by decide⟩ dX11_newSinger_98) (fun H locs hI => ?_)
            cases hf
            subst eK33
            exact s_aretZ E (Or.inl ⟨_, rfl⟩) (Or.inr ⟨_, rfl⟩) had rfl rfl hI dX11_newSinger_101
