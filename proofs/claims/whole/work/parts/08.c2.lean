noncomputable def f_X6_isMissing (G : Mem) (e0 : Nat) : Int32 := (if (G e0 1) = (-1) then 1 else 0)
theorem b_X6_isMissing (G : Mem) (e0 : Nat) : isB (f_X6_isMissing G e0) = true := by
  unfold f_X6_isMissing
  first | (repeat' split) <;> rfl
theorem kyX6_isMissing : Ky yX6_isMissing cX6_isMissing 1 (some FieldType.boolean) 0 := ⟨u3_189, u1_6, by decide, by decide, by decide, by decide +kernel⟩
set_option maxHeartbeats 4000000 in
set_option maxRecDepth 100000 in
theorem c_X6_isMissing (l : Launch) (D : va_G) (K : List Nat) (sh : Nat → Ent) (ad : Nat → Nat) (cy : Nat → ClassId) (X : va_W) (B : State → Prop) (hcl : Bcl (AS K ad X) B) (S : Nat → Nat) (hE : HC S K sh) (e0 : Nat) (he0 : shE e0 = true) (G : Mem) (L : MemL) (O : MemO)   {vz : Int32} (hf : f_X6_isMissing G e0 = vz) : Met l yX6_isMissing (wsU yX6_isMissing cX6_isMissing 1 (some FieldType.boolean)) (rmX 1 0 0) (va_Pc [.ref (ad e0)] (PS D K sh ad cy X B G L O)) (QI (AS K ad X) (PH D K sh ad cy X G L O) vz) 0 0 (AS K ad X) := by
  refine s_met (by decide) (Nat.le_of_ble_eq_true rfl) ?_
  intro p e s m args below meth c ls H locs E hK hBs hnm hI hl
  have hl : lv_has ls 1 [(0, .ref (ad e0))] := hl
  have E : Cx p s m args meth c RX6 cX6_isMissing 1 (some FieldType.boolean) := E
  obtain ⟨hx, hb, hr, hml, hown, hu, hlocks⟩ := id E
  rw [f_X6_isMissing] at hf
  refine lv_aload_n hx hb dX6_isMissing_0 rfl (lv_at hl 0 rfl) ?_
  refine s_get (v := .int (G e0 1)) hx hb hu inU6 hown hK hI (shS hE.1 he0) rfl 1 (by decide) u1_188 (fun _ h => h) rfl rfl dX6_isMissing_1 ?_
  refine lv_iconst (v := (-1)) hx hb dX6_isMissing_4 (by decide) ?_
  refine lv_icmp_ne (tgt := 12) hx hb dX6_isMissing_5 (by decide) (fun c1 => ?_) (fun c1 => ?_)
  · have hf := ite_f c1 hf
    refine lv_iconst (v := 0) hx hb dX6_isMissing_12 (by decide) ?_
    subst hf
    exact s_zret rfl hx hb hr hI.2.2 hI.1 hlocks dX6_isMissing_13
  · have hf := ite_t c1 hf
    refine lv_iconst (v := 1) hx hb dX6_isMissing_8 (by decide) ?_
    refine lv_goto (tgt := 13) hx hb dX6_isMissing_9 (by decide) ?_
    subst hf
    exact s_zret rfl hx hb hr hI.2.2 hI.1 hlocks dX6_isMissing_13
noncomputable def f_X6_become (G : Mem) (e0 : Nat) (x1 : Int32) (x2 : Int32) : Option (Mem) := bnd (up2 G e0 1 x1) (fun G1 => bnd (up2 G1 e0 2 x2) (fun G2 => bndO (f_J7_fill_53178 G2 (e0 + 4) 40 0) (fun G3 => some G3)))
theorem kyX6_become : Ky yX6_become cX6_become 3 none 2 := ⟨u4_130, u1_6, by decide, by decide, by decide, by decide +kernel⟩
set_option maxHeartbeats 4000000 in
set_option maxRecDepth 100000 in
theorem c_X6_become (l : Launch) (D : va_G) (K : List Nat) (sh : Nat → Ent) (ad : Nat → Nat) (cy : Nat → ClassId) (X : va_W) (B : State → Prop) (hcl : Bcl (AS K ad X) B) (S : Nat → Nat) (hE : HC S K sh) (e0 : Nat) (he0 : shE e0 = true) (G : Mem) (L : MemL) (O : MemO) (x1 : Int32) (x2 : Int32) {Gz : Mem} (hf : f_X6_become G e0 x1 x2 = some Gz) : Met l yX6_become (wsU yX6_become cX6_become 3 none) (rmX 2 0 0) (va_Pc [.ref (ad e0), .int x1, .int x2] (PS D K sh ad cy X B G L O)) (QV (AS K ad X) (PH D K sh ad cy X Gz L O)) 0 0 (AS K ad X) := by
  refine s_met (by decide) (Nat.le_of_ble_eq_true rfl) ?_
  intro p e s m args below meth c ls H locs E hK hBs hnm hI hl
  have hl : lv_has ls 3 [(0, .ref (ad e0)), (1, .int x1), (2, .int x2)] := hl
  have E : Cx p s m args meth c RX6 cX6_become 3 none := E
  obtain ⟨hx, hb, hr, hml, hown, hu, hlocks⟩ := id E
  rw [f_X6_become] at hf
  refine lv_aload_n hx hb dX6_become_0 rfl (lv_at hl 0 rfl) ?_
  refine lv_iload_n hx hb dX6_become_1 rfl (lv_at hl 1 rfl) ?_
  obtain ⟨G1, eG1, hf⟩ := bnd_i hf
  refine s_put (ty := .int) hx hb hu inU6 tyX6_ok nmX6 hown hK hI (shS hE.1 he0) rfl 1 (by decide) u1_188 (fun _ h => h) rfl rfl (tyX6_ok 1 (by decide)) rfl rfl eG1 dX6_become_2 (fun H locs hI => ?_)
  refine lv_aload_n hx hb dX6_become_5 rfl (lv_at hl 0 rfl) ?_
  refine lv_iload_n hx hb dX6_become_6 rfl (lv_at hl 2 rfl) ?_
  obtain ⟨G2, eG2, hf⟩ := bnd_i hf
  refine s_put (ty := .int) hx hb hu inU6 tyX6_ok nmX6 hown hK hI (shS hE.1 he0) rfl 2 (by decide) u1_190 (fun _ h => h) rfl rfl (tyX6_ok 2 (by decide)) rfl rfl eG2 dX6_become_7 (fun H locs hI => ?_)
  refine lv_aload_n hx hb dX6_become_10 rfl (lv_at hl 0 rfl) ?_
  refine s_get (v := .ref (ad (e0 + 4))) hx hb hu inU6 hown hK hI (shS hE.1 he0) rfl 0 (by decide) u1_185 (fun _ h => h) rfl rfl dX6_become_11 ?_
  refine lv_iconst (v := 0) hx hb dX6_become_14 (by decide) ?_
  obtain ⟨G3, h4, hf⟩ := bndO_i hf
  refine s_afV hI (s_runS (rest := []) (np := 2) E hK hI (s_B hcl hBs hI) hcl.2 (c_J7_fill_53178 l D K sh ad cy X B hcl  (e0 + 4) 40 (shI hE.1 he0) G2 L O 0 h4) kyJ7_fill_53178 u4_131 u1_38 (by decide) rfl hl.1 rfl (Nat.le_of_ble_eq_true rfl) ⟨Nat.zero_le _, Nat.zero_le _⟩ dX6_become_15) (fun H locs hI => ?_)
  cases hf
  exact s_vret hx hb hr hI.2.2 hI.1 hlocks dX6_become_18
noncomputable def f_X6_put (G : Mem) (e0 : Nat) (x1 : Int32) (x2 : Int32) : Option (Mem) := (if (G e0 1) = 0 then chk (inB x1 40) (bnd (up2 G (e0 + 4) x1.toNatClampNeg (x2.toInt8.toInt32)) (fun G8 => some G8)) else (if (G e0 1) = 1 then chk (inB x1 40) (bnd (up2 G (e0 + 4) x1.toNatClampNeg (x2.toInt16.toInt32)) (fun G6 => some G6)) else chk (inB x1 40) (bnd (up2 G (e0 + 4) x1.toNatClampNeg x2) (fun G4 => some G4))))
theorem kyX6_put : Ky yX6_put cX6_put 3 none 2 := ⟨u4_139, u1_6, by decide, by decide, by decide, by decide +kernel⟩
set_option maxHeartbeats 4000000 in
set_option maxRecDepth 100000 in
theorem c_X6_put (l : Launch) (D : va_G) (K : List Nat) (sh : Nat → Ent) (ad : Nat → Nat) (cy : Nat → ClassId) (X : va_W) (B : State → Prop) (hcl : Bcl (AS K ad X) B) (S : Nat → Nat) (hE : HC S K sh) (e0 : Nat) (he0 : shE e0 = true) (G : Mem) (L : MemL) (O : MemO) (x1 : Int32) (x2 : Int32) {Gz : Mem} (hf : f_X6_put G e0 x1 x2 = some Gz) : Met l yX6_put (wsU yX6_put cX6_put 3 none) (rmX 1 0 0) (va_Pc [.ref (ad e0), .int x1, .int x2] (PS D K sh ad cy X B G L O)) (QV (AS K ad X) (PH D K sh ad cy X Gz L O)) 0 0 (AS K ad X) := by
  refine s_met (by decide) (Nat.le_of_ble_eq_true rfl) ?_
  intro p e s m args below meth c ls H locs E hK hBs hnm hI hl
  have hl : lv_has ls 3 [(0, .ref (ad e0)), (1, .int x1), (2, .int x2)] := hl
  have E : Cx p s m args meth c RX6 cX6_put 3 none := E
  obtain ⟨hx, hb, hr, hml, hown, hu, hlocks⟩ := id E
  rw [f_X6_put] at hf
  refine lv_aload_n hx hb dX6_put_0 rfl (lv_at hl 0 rfl) ?_
  refine s_get (v := .ref (ad (e0 + 4))) hx hb hu inU6 hown hK hI (shS hE.1 he0) rfl 0 (by decide) u1_185 (fun _ h => h) rfl rfl dX6_put_1 ?_
  refine lv_iload_n hx hb dX6_put_4 rfl (lv_at hl 1 rfl) ?_
  refine lv_aload_n hx hb dX6_put_5 rfl (lv_at hl 0 rfl) ?_
  refine s_get (v := .int (G e0 1)) hx hb hu inU6 hown hK hI (shS hE.1 he0) rfl 1 (by decide) u1_188 (fun _ h => h) rfl rfl dX6_put_6 ?_
  refine lv_if_ne (tgt := 17) hx hb dX6_put_9 (by decide) (fun c1 => ?_) (fun c1 => ?_)
  · have hf := ite_f c1 hf
    refine lv_aload_n hx hb dX6_put_17 rfl (lv_at hl 0 rfl) ?_
    refine s_get (v := .int (G e0 1)) hx hb hu inU6 hown hK hI (shS hE.1 he0) rfl 1 (by decide) u1_188 (fun _ h => h) rfl rfl dX6_put_18 ?_
    refine lv_iconst (v := 1) hx hb dX6_put_21 (by decide) ?_
    refine lv_icmp_ne (tgt := 30) hx hb dX6_put_22 (by decide) (fun c2 => ?_) (fun c2 => ?_)
    · have hf := ite_f c2 hf
      refine lv_iload_n hx hb dX6_put_30 rfl (lv_at hl 2 rfl) ?_
      obtain ⟨h3, hf⟩ := chk_i hf
      obtain ⟨G4, eG4, hf⟩ := bnd_i hf
      refine s_ist hx hb hK hI (shI hE.1 he0) (inB_i h3) eG4 dX6_put_31 (fun H locs hI => ?_)
      cases hf
      exact s_vret hx hb hr hI.2.2 hI.1 hlocks dX6_put_32
    · have hf := ite_t c2 hf
      refine lv_iload_n hx hb dX6_put_25 rfl (lv_at hl 2 rfl) ?_
      refine lv_i2s (v := (x2.toInt16.toInt32)) hx hb dX6_put_26 rfl ?_
      refine lv_goto (tgt := 31) hx hb dX6_put_27 (by decide) ?_
      obtain ⟨h5, hf⟩ := chk_i hf
      obtain ⟨G6, eG6, hf⟩ := bnd_i hf
      refine s_ist hx hb hK hI (shI hE.1 he0) (inB_i h5) eG6 dX6_put_31 (fun H locs hI => ?_)
      cases hf
      exact s_vret hx hb hr hI.2.2 hI.1 hlocks dX6_put_32
  · have hf := ite_t c1 hf
    refine lv_iload_n hx hb dX6_put_12 rfl (lv_at hl 2 rfl) ?_
    refine lv_i2b (v := (x2.toInt8.toInt32)) hx hb dX6_put_13 rfl ?_
    refine lv_goto (tgt := 31) hx hb dX6_put_14 (by decide) ?_
    obtain ⟨h7, hf⟩ := chk_i hf
    obtain ⟨G8, eG8, hf⟩ := bnd_i hf
    refine s_ist hx hb hK hI (shI hE.1 he0) (inB_i h7) eG8 dX6_put_31 (fun H locs hI => ?_)
    cases hf
    exact s_vret hx hb hr hI.2.2 hI.1 hlocks dX6_put_32
noncomputable def f_X6_hasRoom (G : Mem) (e0 : Nat) (x1 : Int32) (x2 : Int32) : Int32 := (if x2 < 0 then 0 else (if (G e0 2) < x2 then 0 else (if x1 < 0 then 0 else (if ((G e0 2) - x2) < x1 then 0 else 1))))
theorem b_X6_hasRoom (G : Mem) (e0 : Nat) (x1 : Int32) (x2 : Int32) : isB (f_X6_hasRoom G e0 x1 x2) = true := by
  unfold f_X6_hasRoom
  first | (repeat' split) <;> rfl
theorem kyX6_hasRoom : Ky yX6_hasRoom cX6_hasRoom 3 (some FieldType.boolean) 2 := ⟨u4_147, u1_6, by decide, by decide, by decide, by decide +kernel⟩
set_option maxHeartbeats 4000000 in
set_option maxRecDepth 100000 in
theorem c_X6_hasRoom (l : Launch) (D : va_G) (K : List Nat) (sh : Nat → Ent) (ad : Nat → Nat) (cy : Nat → ClassId) (X : va_W) (B : State → Prop) (hcl : Bcl (AS K ad X) B) (S : Nat → Nat) (hE : HC S K sh) (e0 : Nat) (he0 : shE e0 = true) (G : Mem) (L : MemL) (O : MemO) (x1 : Int32) (x2 : Int32)  {vz : Int32} (hf : f_X6_hasRoom G e0 x1 x2 = vz) : Met l yX6_hasRoom (wsU yX6_hasRoom cX6_hasRoom 3 (some FieldType.boolean)) (rmX 1 0 0) (va_Pc [.ref (ad e0), .int x1, .int x2] (PS D K sh ad cy X B G L O)) (QI (AS K ad X) (PH D K sh ad cy X G L O) vz) 0 0 (AS K ad X) := by
  refine s_met (by decide) (Nat.le_of_ble_eq_true rfl) ?_
  intro p e s m args below meth c ls H locs E hK hBs hnm hI hl
  have hl : lv_has ls 3 [(0, .ref (ad e0)), (1, .int x1), (2, .int x2)] := hl
  have E : Cx p s m args meth c RX6 cX6_hasRoom 3 (some FieldType.boolean) := E
  obtain ⟨hx, hb, hr, hml, hown, hu, hlocks⟩ := id E
  rw [f_X6_hasRoom] at hf
  refine lv_iload_n hx hb dX6_hasRoom_0 rfl (lv_at hl 2 rfl) ?_
  refine lv_if_lt (tgt := 30) hx hb dX6_hasRoom_1 (by decide) (fun c1 => ?_) (fun c1 => ?_)
  · have hf := ite_t c1 hf
    refine lv_iconst (v := 0) hx hb dX6_hasRoom_30 (by decide) ?_
    subst hf
    exact s_zret rfl hx hb hr hI.2.2 hI.1 hlocks dX6_hasRoom_31
  · have hf := ite_f c1 hf
    refine lv_iload_n hx hb dX6_hasRoom_4 rfl (lv_at hl 2 rfl) ?_
    refine lv_aload_n hx hb dX6_hasRoom_5 rfl (lv_at hl 0 rfl) ?_
    refine s_get (v := .int (G e0 2)) hx hb hu inU6 hown hK hI (shS hE.1 he0) rfl 2 (by decide) u1_190 (fun _ h => h) rfl rfl dX6_hasRoom_6 ?_
    refine lv_icmp_gt (tgt := 30) hx hb dX6_hasRoom_9 (by decide) (fun c2 => ?_) (fun c2 => ?_)
    · have hf := ite_t c2 hf
      refine lv_iconst (v := 0) hx hb dX6_hasRoom_30 (by decide) ?_
      subst hf
      exact s_zret rfl hx hb hr hI.2.2 hI.1 hlocks dX6_hasRoom_31
    · have hf := ite_f c2 hf
      refine lv_iload_n hx hb dX6_hasRoom_12 rfl (lv_at hl 1 rfl) ?_
      refine lv_if_lt (tgt := 30) hx hb dX6_hasRoom_13 (by decide) (fun c3 => ?_) (fun c3 => ?_)
      · have hf := ite_t c3 hf
        refine lv_iconst (v := 0) hx hb dX6_hasRoom_30 (by decide) ?_
        subst hf
        exact s_zret rfl hx hb hr hI.2.2 hI.1 hlocks dX6_hasRoom_31
      · have hf := ite_f c3 hf
        refine lv_iload_n hx hb dX6_hasRoom_16 rfl (lv_at hl 1 rfl) ?_
        refine lv_aload_n hx hb dX6_hasRoom_17 rfl (lv_at hl 0 rfl) ?_
        refine s_get (v := .int (G e0 2)) hx hb hu inU6 hown hK hI (shS hE.1 he0) rfl 2 (by decide) u1_190 (fun _ h => h) rfl rfl dX6_hasRoom_18 ?_
        refine lv_iload_n hx hb dX6_hasRoom_21 rfl (lv_at hl 2 rfl) ?_
        refine lv_isub hx hb dX6_hasRoom_22 ?_
        refine lv_icmp_gt (tgt := 30) hx hb dX6_hasRoom_23 (by decide) (fun c4 => ?_) (fun c4 => ?_)
        · have hf := ite_t c4 hf
          refine lv_iconst (v := 0) hx hb dX6_hasRoom_30 (by decide) ?_
          subst hf
          exact s_zret rfl hx hb hr hI.2.2 hI.1 hlocks dX6_hasRoom_31
        · have hf := ite_f c4 hf
          refine lv_iconst (v := 1) hx hb dX6_hasRoom_26 (by decide) ?_
          refine lv_goto (tgt := 31) hx hb dX6_hasRoom_27 (by decide) ?_
          subst hf
          exact s_zret rfl hx hb hr hI.2.2 hI.1 hlocks dX6_hasRoom_31
noncomputable def j_X4_takeFrom_90 (e0 : Nat) (e1 : Nat) (x2 : Int32)  (G : Mem) : Option (Mem) := bnd (up2 G e0 5 (G e1 5)) (fun G10 => bnd (up2 G10 e0 6 (G10 e1 6)) (fun G11 => bnd (up2 G11 e0 7 (G11 e1 7)) (fun G12 => some G12)))
noncomputable def q_X4_takeFrom_61 (e0 : Nat) (e1 : Nat) (x2 : Int32)  (rec : (Mem × Int32) → Option (Mem)) : (Mem × Int32) → Option (Mem) := fun (G, x3) => (if x2 ≤ x3 then j_X4_takeFrom_90 e0 e1 x2 G else (if 10 ≤ x3 then j_X4_takeFrom_90 e0 e1 x2 G else chk (inB x3 10) (chk (inB x3 10) (bnd (up2 G (e0 + 5) x3.toNatClampNeg (G (e1 + 5) x3.toNatClampNeg)) (fun G16 => bnd (x3 + 1) (fun x3_17 => rec (G16, x3_17)))))))
noncomputable def f_X4_takeFrom (G : Mem) (e0 : Nat) (e1 : Nat) (x2 : Int32) : Option (Mem) := chk (cpB 0 0 48 48 48) (bnd (cpG G (e1 + 1) (e0 + 1) 0 0 48) (fun G2 => chk (cpB 0 0 48 48 48) (bnd (cpG G2 (e1 + 2) (e0 + 2) 0 0 48) (fun G4 => chk (cpB 0 0 48 48 48) (bnd (cpG G4 (e1 + 3) (e0 + 3) 0 0 48) (fun G6 => chk (cpB 0 0 4 4 4) (bnd (cpG G6 (e1 + 4) (e0 + 4) 0 0 4) (fun G8 => iter (q_X4_takeFrom_61 e0 e1 x2) fuel (G8, 0)))))))))
theorem kyX4_takeFrom : Ky yX4_takeFrom cX4_takeFrom 4 none 2 := ⟨u4_112, u1_2, by decide, by decide, by decide, by decide +kernel⟩
set_option maxHeartbeats 4000000 in
set_option maxRecDepth 100000 in
theorem c_X4_takeFrom (l : Launch) (D : va_G) (K : List Nat) (sh : Nat → Ent) (ad : Nat → Nat) (cy : Nat → ClassId) (X : va_W) (B : State → Prop) (hcl : Bcl (AS K ad X) B) (S : Nat → Nat) (hE : HC S K sh) (e0 : Nat) (he0 : pcE e0 = true) (e1 : Nat) (he1 : pcE e1 = true) (G : Mem) (L : MemL) (O : MemO) (x2 : Int32) {Gz : Mem} (hf : f_X4_takeFrom G e0 e1 x2 = some Gz) : Met l yX4_takeFrom (wsU yX4_takeFrom cX4_takeFrom 4 none) (rmX 1 0 0) (va_Pc [.ref (ad e0), .ref (ad e1), .int x2] (PS D K sh ad cy X B G L O)) (QV (AS K ad X) (PH D K sh ad cy X Gz L O)) 0 0 (AS K ad X) := by
  refine s_met (by decide) (Nat.le_of_ble_eq_true rfl) ?_
  intro p e s m args below meth c ls H locs E hK hBs hnm hI hl
  have hl : lv_has ls 4 [(0, .ref (ad e0)), (1, .ref (ad e1)), (2, .int x2)] := hl
  have E : Cx p s m args meth c RX4 cX4_takeFrom 4 none := E
  obtain ⟨hx, hb, hr, hml, hown, hu, hlocks⟩ := id E
  have B90 : ∀    (G : Mem) (H : Heap) (locs : List Loc) (ls : Array Slot), lv_has ls 4 [(0, .ref (ad e0)), (1, .ref (ad e1))] → IS D K sh ad cy X (AS K ad X) s.heap H locs G L O → j_X4_takeFrom_90 e0 e1 x2 G = some Gz → W p l e (rmX 1 0 0) s m args below meth c H locs 0 0 (MQ below (QV (AS K ad X) (PH D K sh ad cy X Gz L O)) args s 0 0 (AS K ad X)) (F0 m 90 ls []) := by
    intro  G H locs ls hl hI hf
    rw [j_X4_takeFrom_90] at hf
    refine lv_aload_n hx hb dX4_takeFrom_90 rfl (lv_at hl 0 rfl) ?_
    refine lv_aload_n hx hb dX4_takeFrom_91 rfl (lv_at hl 1 rfl) ?_
    refine s_get (v := .int (G e1 5)) hx hb hu inU4 hown hK hI (pcS hE.1 he1) rfl 5 (by decide) u1_55 (fun _ h => h) rfl rfl dX4_takeFrom_92 ?_
    obtain ⟨G10, eG10, hf⟩ := bnd_i hf
    refine s_put (ty := .int) hx hb hu inU4 tyX4_ok nmX4 hown hK hI (pcS hE.1 he0) rfl 5 (by decide) u1_55 (fun _ h => h) rfl rfl (tyX4_ok 5 (by decide)) rfl rfl eG10 dX4_takeFrom_95 (fun H locs hI => ?_)
    refine lv_aload_n hx hb dX4_takeFrom_98 rfl (lv_at hl 0 rfl) ?_
    refine lv_aload_n hx hb dX4_takeFrom_99 rfl (lv_at hl 1 rfl) ?_
    refine s_get (v := .int (G10 e1 6)) hx hb hu inU4 hown hK hI (pcS hE.1 he1) rfl 6 (by decide) u1_58 (fun _ h => h) rfl rfl dX4_takeFrom_100 ?_
    obtain ⟨G11, eG11, hf⟩ := bnd_i hf
    refine s_put (ty := .int) hx hb hu inU4 tyX4_ok nmX4 hown hK hI (pcS hE.1 he0) rfl 6 (by decide) u1_58 (fun _ h => h) rfl rfl (tyX4_ok 6 (by decide)) rfl rfl eG11 dX4_takeFrom_103 (fun H locs hI => ?_)
    refine lv_aload_n hx hb dX4_takeFrom_106 rfl (lv_at hl 0 rfl) ?_
    refine lv_aload_n hx hb dX4_takeFrom_107 rfl (lv_at hl 1 rfl) ?_
    refine s_get (v := .int (G11 e1 7)) hx hb hu inU4 hown hK hI (pcS hE.1 he1) rfl 7 (by decide) u1_61 (fun _ h => h) rfl rfl dX4_takeFrom_108 ?_
    obtain ⟨G12, eG12, hf⟩ := bnd_i hf
    refine s_put (ty := .int) hx hb hu inU4 tyX4_ok nmX4 hown hK hI (pcS hE.1 he0) rfl 7 (by decide) u1_61 (fun _ h => h) rfl rfl (tyX4_ok 7 (by decide)) rfl rfl eG12 dX4_takeFrom_111 (fun H locs hI => ?_)
    cases hf
    exact s_vret hx hb hr hI.2.2 hI.1 hlocks dX4_takeFrom_114
  have B61 : ∀   (n : Nat) (G : Mem) (x3 : Int32) (H : Heap) (locs : List Loc) (ls : Array Slot), lv_has ls 4 [(0, .ref (ad e0)), (1, .ref (ad e1)), (2, .int x2), (3, .int x3)] → IS D K sh ad cy X (AS K ad X) s.heap H locs G L O → iter (q_X4_takeFrom_61 e0 e1 x2) n (G, x3) = some Gz → W p l e (rmX 1 0 0) s m args below meth c H locs 0 0 (MQ below (QV (AS K ad X) (PH D K sh ad cy X Gz L O)) args s 0 0 (AS K ad X)) (F0 m 61 ls []) := by
    intro n
    induction n with
    | zero => intro G x3 H locs ls hl hI hf; exact iter_0 hf
    | succ n ih =>
      intro G x3 H locs ls hl hI hf
      have hf : q_X4_takeFrom_61 e0 e1 x2 (iter (q_X4_takeFrom_61 e0 e1 x2) n) (G, x3) = some Gz := hf
      rw [q_X4_takeFrom_61] at hf
      refine lv_iload_n hx hb dX4_takeFrom_61 rfl (lv_at hl 3 rfl) ?_
      refine lv_iload_n hx hb dX4_takeFrom_62 rfl (lv_at hl 2 rfl) ?_
      refine lv_icmp_ge (tgt := 90) hx hb dX4_takeFrom_63 (by decide) (fun c9 => ?_) (fun c9 => ?_)
      · have hf := ite_t c9 hf
        exact B90    G H locs ls (lv_sub hl [0, 1] rfl) hI hf
      · have hf := ite_f c9 hf
        refine lv_iload_n hx hb dX4_takeFrom_66 rfl (lv_at hl 3 rfl) ?_
        refine lv_bipush (v := 10) hx hb dX4_takeFrom_67 (by decide) ?_
        refine lv_icmp_ge (tgt := 90) hx hb dX4_takeFrom_69 (by decide) (fun c13 => ?_) (fun c13 => ?_)
        · have hf := ite_t c13 hf
          exact B90    G H locs ls (lv_sub hl [0, 1] rfl) hI hf
        · have hf := ite_f c13 hf
          refine lv_aload_n hx hb dX4_takeFrom_72 rfl (lv_at hl 0 rfl) ?_
          refine s_get (v := .ref (ad (e0 + 5))) hx hb hu inU4 hown hK hI (pcS hE.1 he0) rfl 4 (by decide) u1_52 (fun _ h => h) rfl rfl dX4_takeFrom_73 ?_
          refine lv_iload_n hx hb dX4_takeFrom_76 rfl (lv_at hl 3 rfl) ?_
          refine lv_aload_n hx hb dX4_takeFrom_77 rfl (lv_at hl 1 rfl) ?_
          refine s_get (v := .ref (ad (e1 + 5))) hx hb hu inU4 hown hK hI (pcS hE.1 he1) rfl 4 (by decide) u1_52 (fun _ h => h) rfl rfl dX4_takeFrom_78 ?_
          refine lv_iload_n hx hb dX4_takeFrom_81 rfl (lv_at hl 3 rfl) ?_
          obtain ⟨h14, hf⟩ := chk_i hf
          refine s_ild hx hb hK hI (pcA5 hE.1 he1) (inB_i h14) dX4_takeFrom_82 ?_
          obtain ⟨h15, hf⟩ := chk_i hf
          obtain ⟨G16, eG16, hf⟩ := bnd_i hf
          refine s_ist hx hb hK hI (pcA5 hE.1 he0) (inB_i h15) eG16 dX4_takeFrom_83 (fun H locs hI => ?_)
          obtain ⟨x3_17, ex3_17, hf⟩ := bnd_i hf
          refine lv_iinc (v := x3_17) (lv' := [(3, .int x3_17), (0, .ref (ad e0)), (1, .ref (ad e1)), (2, .int x2)]) hx hb dX4_takeFrom_84 hl (k := 3) rfl (by rw [ex3_17]; rfl) (by decide) rfl (fun ls hl => ?_)
          refine lv_goto (tgt := 61) hx hb dX4_takeFrom_87 (by decide) ?_
          exact ih G16 x3_17 H locs ls (lv_sub hl [1, 2, 3, 0] rfl) hI hf
  rw [f_X4_takeFrom] at hf
  refine lv_aload_n hx hb dX4_takeFrom_0 rfl (lv_at hl 1 rfl) ?_
  refine s_get (v := .ref (ad (e1 + 1))) hx hb hu inU4 hown hK hI (pcS hE.1 he1) rfl 0 (by decide) u1_40 (fun _ h => h) rfl rfl dX4_takeFrom_1 ?_
  refine lv_iconst (v := 0) hx hb dX4_takeFrom_4 (by decide) ?_
  refine lv_aload_n hx hb dX4_takeFrom_5 rfl (lv_at hl 0 rfl) ?_
  refine s_get (v := .ref (ad (e0 + 1))) hx hb hu inU4 hown hK hI (pcS hE.1 he0) rfl 0 (by decide) u1_40 (fun _ h => h) rfl rfl dX4_takeFrom_6 ?_
  refine lv_iconst (v := 0) hx hb dX4_takeFrom_9 (by decide) ?_
  refine lv_bipush (v := 48) hx hb dX4_takeFrom_10 (by decide) ?_
  obtain ⟨h1, hf⟩ := chk_i hf
  obtain ⟨G2, eG2, hf⟩ := bnd_i hf
  refine s_copyi (rest := []) E hK hI hl.1 u4_113 u2_151 u2_150 u1_14 (pcA1 hE.1 he1) (pcA1 hE.1 he0) h1 eG2 (by decide) (Nat.le_of_ble_eq_true rfl) dX4_takeFrom_12 (fun H locs hI => ?_)
  refine lv_aload_n hx hb dX4_takeFrom_15 rfl (lv_at hl 1 rfl) ?_
  refine s_get (v := .ref (ad (e1 + 2))) hx hb hu inU4 hown hK hI (pcS hE.1 he1) rfl 1 (by decide) u1_43 (fun _ h => h) rfl rfl dX4_takeFrom_16 ?_
  refine lv_iconst (v := 0) hx hb dX4_takeFrom_19 (by decide) ?_
  refine lv_aload_n hx hb dX4_takeFrom_20 rfl (lv_at hl 0 rfl) ?_
  refine s_get (v := .ref (ad (e0 + 2))) hx hb hu inU4 hown hK hI (pcS hE.1 he0) rfl 1 (by decide) u1_43 (fun _ h => h) rfl rfl dX4_takeFrom_21 ?_
  refine lv_iconst (v := 0) hx hb dX4_takeFrom_24 (by decide) ?_
  refine lv_bipush (v := 48) hx hb dX4_takeFrom_25 (by decide) ?_
  obtain ⟨h3, hf⟩ := chk_i hf
  obtain ⟨G4, eG4, hf⟩ := bnd_i hf
  refine s_copyi (rest := []) E hK hI hl.1 u4_113 u2_151 u2_150 u1_14 (pcA2 hE.1 he1) (pcA2 hE.1 he0) h3 eG4 (by decide) (Nat.le_of_ble_eq_true rfl) dX4_takeFrom_27 (fun H locs hI => ?_)
  refine lv_aload_n hx hb dX4_takeFrom_30 rfl (lv_at hl 1 rfl) ?_
  refine s_get (v := .ref (ad (e1 + 3))) hx hb hu inU4 hown hK hI (pcS hE.1 he1) rfl 2 (by decide) u1_46 (fun _ h => h) rfl rfl dX4_takeFrom_31 ?_
  refine lv_iconst (v := 0) hx hb dX4_takeFrom_34 (by decide) ?_
  refine lv_aload_n hx hb dX4_takeFrom_35 rfl (lv_at hl 0 rfl) ?_
  refine s_get (v := .ref (ad (e0 + 3))) hx hb hu inU4 hown hK hI (pcS hE.1 he0) rfl 2 (by decide) u1_46 (fun _ h => h) rfl rfl dX4_takeFrom_36 ?_
  refine lv_iconst (v := 0) hx hb dX4_takeFrom_39 (by decide) ?_
  refine lv_bipush (v := 48) hx hb dX4_takeFrom_40 (by decide) ?_
  obtain ⟨h5, hf⟩ := chk_i hf
  obtain ⟨G6, eG6, hf⟩ := bnd_i hf
  refine s_copyi (rest := []) E hK hI hl.1 u4_113 u2_151 u2_150 u1_14 (pcA3 hE.1 he1) (pcA3 hE.1 he0) h5 eG6 (by decide) (Nat.le_of_ble_eq_true rfl) dX4_takeFrom_42 (fun H locs hI => ?_)
  refine lv_aload_n hx hb dX4_takeFrom_45 rfl (lv_at hl 1 rfl) ?_
  refine s_get (v := .ref (ad (e1 + 4))) hx hb hu inU4 hown hK hI (pcS hE.1 he1) rfl 3 (by decide) u1_49 (fun _ h => h) rfl rfl dX4_takeFrom_46 ?_
  refine lv_iconst (v := 0) hx hb dX4_takeFrom_49 (by decide) ?_
  refine lv_aload_n hx hb dX4_takeFrom_50 rfl (lv_at hl 0 rfl) ?_
  refine s_get (v := .ref (ad (e0 + 4))) hx hb hu inU4 hown hK hI (pcS hE.1 he0) rfl 3 (by decide) u1_49 (fun _ h => h) rfl rfl dX4_takeFrom_51 ?_
  refine lv_iconst (v := 0) hx hb dX4_takeFrom_54 (by decide) ?_
  refine lv_iconst (v := 4) hx hb dX4_takeFrom_55 (by decide) ?_
  obtain ⟨h7, hf⟩ := chk_i hf
  obtain ⟨G8, eG8, hf⟩ := bnd_i hf
  refine s_copyi (rest := []) E hK hI hl.1 u4_113 u2_151 u2_150 u1_14 (pcA4 hE.1 he1) (pcA4 hE.1 he0) h7 eG8 (by decide) (Nat.le_of_ble_eq_true rfl) dX4_takeFrom_56 (fun H locs hI => ?_)
  refine lv_iconst (v := 0) hx hb dX4_takeFrom_59 (by decide) ?_
  refine lv_istore_n (lv' := [(3, .int 0), (0, .ref (ad e0)), (1, .ref (ad e1)), (2, .int x2)]) hx hb dX4_takeFrom_60 rfl hl (by decide) rfl (fun ls hl => ?_)
  exact B61   fuel G8 0 H locs ls (lv_sub hl [1, 2, 3, 0] rfl) hI hf
noncomputable def f_X9_joined  (x0 : Int32) (x1 : Int32) (x2 : Int32) : Int32 := (if x0 = 3 then (if x1 = 0 then (if x2 = 0 then 0 else 1) else 1) else if x0 = 4 then (if x1 = 0 then 0 else (if x2 = 0 then 0 else 1)) else if x0 = 43 then (x1 + x2) else if x0 = 45 then (x1 - x2) else if x0 = 60 then (if x2 ≤ x1 then 0 else 1) else if x0 = 61 then (if x1 = x2 then 1 else 0) else (x1 * x2))
theorem kyX9_joined : Ky yX9_joined cX9_joined 3 (some FieldType.int) 3 := ⟨u4_13, u1_13, by decide, by decide, by decide, by decide +kernel⟩
set_option maxHeartbeats 4000000 in
set_option maxRecDepth 100000 in
theorem c_X9_joined (l : Launch) (x0 : Int32) (x1 : Int32) (x2 : Int32)  {vz : Int32} (hf : f_X9_joined x0 x1 x2 = vz) : Met l yX9_joined (wsU yX9_joined cX9_joined 3 (some FieldType.int)) (rmX 1 0 0) (va_Pc [.int x0, .int x1, .int x2] (fun _ => True)) (QP vz) 0 0 noA := by
  refine s_met0 (by decide) (Nat.le_of_ble_eq_true rfl) ?_
  intro p e s m args below meth c ls E hl
  have hl : lv_has ls 3 [(0, .int x0), (1, .int x1), (2, .int x2)] := hl
  have E : Cx p s m args meth c RX9 cX9_joined 3 (some FieldType.int) := E
  obtain ⟨hx, hb, hr, hml, hown, hu, hlocks⟩ := id E
  rw [f_X9_joined] at hf
  refine lv_iload_n hx hb dX9_joined_0 rfl (lv_at hl 0 rfl) ?_
  by_cases c1 : x0 = 3
  · have hf := ite_t c1 hf
    refine s_lkp (tgt := 60) (off := 59) 3 E dX9_joined_1 (by decide) c1 (by decide) (by decide) ?_
    refine lv_iload_n hx hb dX9_joined_60 rfl (lv_at hl 1 rfl) ?_
    refine lv_if_ne (tgt := 68) hx hb dX9_joined_61 (by decide) (fun c2 => ?_) (fun c2 => ?_)
    · have hf := ite_f c2 hf
      refine lv_iconst (v := 1) hx hb dX9_joined_68 (by decide) ?_
      refine lv_goto (tgt := 73) hx hb dX9_joined_69 (by decide) ?_
      subst hf
      exact s_iretP rfl E dX9_joined_73
    · have hf := ite_t c2 hf
      refine lv_iload_n hx hb dX9_joined_64 rfl (lv_at hl 2 rfl) ?_
      refine lv_if_eq (tgt := 72) hx hb dX9_joined_65 (by decide) (fun c3 => ?_) (fun c3 => ?_)
      · have hf := ite_t c3 hf
        refine lv_iconst (v := 0) hx hb dX9_joined_72 (by decide) ?_
        subst hf
        exact s_iretP rfl E dX9_joined_73
      · have hf := ite_f c3 hf
        refine lv_iconst (v := 1) hx hb dX9_joined_68 (by decide) ?_
        refine lv_goto (tgt := 73) hx hb dX9_joined_69 (by decide) ?_
        subst hf
        exact s_iretP rfl E dX9_joined_73
  · have hf := ite_f c1 hf
    by_cases c4 : x0 = 4
    · have hf := ite_t c4 hf
      refine s_lkp (tgt := 74) (off := 73) 4 E dX9_joined_1 (by decide) c4 (by decide) (by decide) ?_
      refine lv_iload_n hx hb dX9_joined_74 rfl (lv_at hl 1 rfl) ?_
      refine lv_if_eq (tgt := 86) hx hb dX9_joined_75 (by decide) (fun c5 => ?_) (fun c5 => ?_)
      · have hf := ite_t c5 hf
        refine lv_iconst (v := 0) hx hb dX9_joined_86 (by decide) ?_
        subst hf
        exact s_iretP rfl E dX9_joined_87
      · have hf := ite_f c5 hf
        refine lv_iload_n hx hb dX9_joined_78 rfl (lv_at hl 2 rfl) ?_
        refine lv_if_eq (tgt := 86) hx hb dX9_joined_79 (by decide) (fun c6 => ?_) (fun c6 => ?_)
        · have hf := ite_t c6 hf
          refine lv_iconst (v := 0) hx hb dX9_joined_86 (by decide) ?_
          subst hf
          exact s_iretP rfl E dX9_joined_87
        · have hf := ite_f c6 hf
          refine lv_iconst (v := 1) hx hb dX9_joined_82 (by decide) ?_
          refine lv_goto (tgt := 87) hx hb dX9_joined_83 (by decide) ?_
          subst hf
          exact s_iretP rfl E dX9_joined_87
    · have hf := ite_f c4 hf
      by_cases c7 : x0 = 43
      · have hf := ite_t c7 hf
        refine s_lkp (tgt := 110) (off := 109) 43 E dX9_joined_1 (by decide) c7 (by decide) (by decide) ?_
        refine lv_iload_n hx hb dX9_joined_110 rfl (lv_at hl 1 rfl) ?_
        refine lv_iload_n hx hb dX9_joined_111 rfl (lv_at hl 2 rfl) ?_
        refine lv_iadd hx hb dX9_joined_112 ?_
        subst hf
        exact s_iretP rfl E dX9_joined_113
      · have hf := ite_f c7 hf
        by_cases c8 : x0 = 45
        · have hf := ite_t c8 hf
          refine s_lkp (tgt := 114) (off := 113) 45 E dX9_joined_1 (by decide) c8 (by decide) (by decide) ?_
          refine lv_iload_n hx hb dX9_joined_114 rfl (lv_at hl 1 rfl) ?_
          refine lv_iload_n hx hb dX9_joined_115 rfl (lv_at hl 2 rfl) ?_
          refine lv_isub hx hb dX9_joined_116 ?_
          subst hf
          exact s_iretP rfl E dX9_joined_117
        · have hf := ite_f c8 hf
          by_cases c9 : x0 = 60
          · have hf := ite_t c9 hf
            refine s_lkp (tgt := 88) (off := 87) 60 E dX9_joined_1 (by decide) c9 (by decide) (by decide) ?_
            refine lv_iload_n hx hb dX9_joined_88 rfl (lv_at hl 1 rfl) ?_
            refine lv_iload_n hx hb dX9_joined_89 rfl (lv_at hl 2 rfl) ?_
            refine lv_icmp_ge (tgt := 97) hx hb dX9_joined_90 (by decide) (fun c10 => ?_) (fun c10 => ?_)
            · have hf := ite_t c10 hf
              refine lv_iconst (v := 0) hx hb dX9_joined_97 (by decide) ?_
              subst hf
              exact s_iretP rfl E dX9_joined_98
            · have hf := ite_f c10 hf
              refine lv_iconst (v := 1) hx hb dX9_joined_93 (by decide) ?_
              refine lv_goto (tgt := 98) hx hb dX9_joined_94 (by decide) ?_
              subst hf
              exact s_iretP rfl E dX9_joined_98
          · have hf := ite_f c9 hf
            by_cases c11 : x0 = 61
            · have hf := ite_t c11 hf
              refine s_lkp (tgt := 99) (off := 98) 61 E dX9_joined_1 (by decide) c11 (by decide) (by decide) ?_
              refine lv_iload_n hx hb dX9_joined_99 rfl (lv_at hl 1 rfl) ?_
              refine lv_iload_n hx hb dX9_joined_100 rfl (lv_at hl 2 rfl) ?_
              refine lv_icmp_ne (tgt := 108) hx hb dX9_joined_101 (by decide) (fun c12 => ?_) (fun c12 => ?_)
              · have hf := ite_f c12 hf
                refine lv_iconst (v := 0) hx hb dX9_joined_108 (by decide) ?_
                subst hf
                exact s_iretP rfl E dX9_joined_109
              · have hf := ite_t c12 hf
                refine lv_iconst (v := 1) hx hb dX9_joined_104 (by decide) ?_
                refine lv_goto (tgt := 109) hx hb dX9_joined_105 (by decide) ?_
                subst hf
                exact s_iretP rfl E dX9_joined_109
            · have hf := ite_f c11 hf
              refine lv_lookup (tgt := 118) hx hb dX9_joined_1 (by decide) (show Op.lookupswitch.offset [(3, 59), (4, 73), (43, 109), (45, 113), (60, 87), (61, 98)] 117 x0.toInt = 117 by rw [lv_osw c1 (show (3 : Int32).toInt = 3 from rfl), lv_osw c4 (show (4 : Int32).toInt = 4 from rfl), lv_osw c7 (show (43 : Int32).toInt = 43 from rfl), lv_osw c8 (show (45 : Int32).toInt = 45 from rfl), lv_osw c9 (show (60 : Int32).toInt = 60 from rfl), lv_osw c11 (show (61 : Int32).toInt = 61 from rfl)]; rfl) (by decide) ?_
              refine lv_iload_n hx hb dX9_joined_118 rfl (lv_at hl 1 rfl) ?_
              refine lv_iload_n hx hb dX9_joined_119 rfl (lv_at hl 2 rfl) ?_
              refine lv_imul hx hb dX9_joined_120 ?_
              subst hf
              exact s_iretP rfl E dX9_joined_121
noncomputable def j_X9_valueOf_273 (S : Nat → Nat) (e0 : Nat) (x1 : Int32) (k45 : (Mem × Int32 × Int32 × Int32) → Option (Mem × Int32)) (G : Mem) (x4 : Int32) (x5 : Int32) (x6 : Int32) : Option (Mem × Int32) := bnd (x6 + 1) (fun x6_18 => k45 (G, x4, x5, x6_18))
noncomputable def j_X9_valueOf_232 (S : Nat → Nat) (e0 : Nat) (x1 : Int32) (k45 : (Mem × Int32 × Int32 × Int32) → Option (Mem × Int32)) (G : Mem) (x4 : Int32) (x5 : Int32) (x6 : Int32) (x7 : Int32) : Option (Mem × Int32) := (if x5 < 2 then j_X9_valueOf_273 S e0 x1 k45 G x4 x5 x6 else chk (inB (x5 - 2) 32) (chk (inB (x5 - 1) 32) (chk (inB (x5 - 2) 32) (bnd (up2 G (e0 + 3) (x5 - 2).toNatClampNeg (f_X9_joined x7 (G (e0 + 3) (x5 - 2).toNatClampNeg) (G (e0 + 3) (x5 - 1).toNatClampNeg))) (fun G22 => bnd (x5 + (-1)) (fun x5_23 => j_X9_valueOf_273 S e0 x1 k45 G22 x4 x5_23 x6))))))
noncomputable def j_X9_valueOf_197 (S : Nat → Nat) (e0 : Nat) (x1 : Int32) (k45 : (Mem × Int32 × Int32 × Int32) → Option (Mem × Int32)) (G : Mem) (x4 : Int32) (x5 : Int32) (x6 : Int32) (x7 : Int32) : Option (Mem × Int32) := (if x7 = 8 then (if x5 < 1 then j_X9_valueOf_232 S e0 x1 k45 G x4 x5 x6 x7 else chk (inB (x5 - 1) 32) (chk (inB (x5 - 1) 32) (bnd (up2 G (e0 + 3) (x5 - 1).toNatClampNeg (-(G (e0 + 3) (x5 - 1).toNatClampNeg))) (fun G27 => j_X9_valueOf_273 S e0 x1 k45 G27 x4 x5 x6)))) else j_X9_valueOf_232 S e0 x1 k45 G x4 x5 x6 x7)
noncomputable def j_X9_valueOf_153 (S : Nat → Nat) (e0 : Nat) (x1 : Int32) (k45 : (Mem × Int32 × Int32 × Int32) → Option (Mem × Int32)) (G : Mem) (x4 : Int32) (x5 : Int32) (x6 : Int32) (x7 : Int32) : Option (Mem × Int32) := (if x7 = 5 then (if x5 < 1 then j_X9_valueOf_197 S e0 x1 k45 G x4 x5 x6 x7 else chk (inB (x5 - 1) 32) ((if (G (e0 + 3) (x5 - 1).toNatClampNeg) = 0 then chk (inB (x5 - 1) 32) (bnd (up2 G (e0 + 3) (x5 - 1).toNatClampNeg (f_X11_truth 1)) (fun G34 => j_X9_valueOf_273 S e0 x1 k45 G34 x4 x5 x6)) else chk (inB (x5 - 1) 32) (bnd (up2 G (e0 + 3) (x5 - 1).toNatClampNeg (f_X11_truth 0)) (fun G32 => j_X9_valueOf_273 S e0 x1 k45 G32 x4 x5 x6))))) else j_X9_valueOf_197 S e0 x1 k45 G x4 x5 x6 x7)
noncomputable def j_X9_valueOf_115 (S : Nat → Nat) (e0 : Nat) (x1 : Int32) (k45 : (Mem × Int32 × Int32 × Int32) → Option (Mem × Int32)) (G : Mem) (x4 : Int32) (x5 : Int32) (x6 : Int32) (x7 : Int32) (x8 : Int32) : Option (Mem × Int32) := (if x7 = 6 then (if 32 ≤ x5 then j_X9_valueOf_153 S e0 x1 k45 G x4 x5 x6 x7 else (if (nI 6) ≤ x8 then j_X9_valueOf_153 S e0 x1 k45 G x4 x5 x6 x7 else chk (inB x8 6) (chk (inB x5 32) (bnd (up2 G (e0 + 3) x5.toNatClampNeg (G 129 x8.toNatClampNeg)) (fun G39 => bnd (x5 + 1) (fun x5_40 => j_X9_valueOf_273 S e0 x1 k45 G39 x4 x5_40 x6)))))) else j_X9_valueOf_153 S e0 x1 k45 G x4 x5 x6 x7)
noncomputable def q_X9_valueOf_45 (S : Nat → Nat) (e0 : Nat) (x1 : Int32)  (rec : (Mem × Int32 × Int32 × Int32) → Option (Mem × Int32)) : (Mem × Int32 × Int32 × Int32) → Option (Mem × Int32) := fun (G, x4, x5, x6) => (if x4 ≤ x6 then some (G, (G (e0 + 3) (0 : Int32).toNatClampNeg)) else (if (nI (S (e0 + 1))) ≤ x6 then some (G, (G (e0 + 3) (0 : Int32).toNatClampNeg)) else chk (inB x6 (S (e0 + 1))) (bnd ((G (e0 + 1) x6.toNatClampNeg) - (G (e0 + 1) x6.toNatClampNeg) / 64 * 64) (fun x7_10 => chk (inB x6 (S (e0 + 1))) (bnd ((G (e0 + 1) x6.toNatClampNeg) / 64) (fun x8_12 => (if x7_10 = 7 then (if 32 ≤ x5 then j_X9_valueOf_115 S e0 x1 rec G x4 x5 x6 x7_10 x8_12 else chk (inB x5 32) (bnd (up2 G (e0 + 3) x5.toNatClampNeg x8_12) (fun G43 => bnd (x5 + 1) (fun x5_44 => j_X9_valueOf_273 S e0 x1 rec G43 x4 x5_44 x6)))) else j_X9_valueOf_115 S e0 x1 rec G x4 x5 x6 x7_10 x8_12)))))))
noncomputable def f_X9_valueOf (G : Mem) (S : Nat → Nat) (e0 : Nat) (x1 : Int32) : Option (Mem × Int32) := (if (f_X11_outside x1 (nI 3)) = 0 then (if x1 = 0 then chk (inB x1 3) (bnd (G (e0 + 2) x1.toNatClampNeg) (fun x4_46 => iter (q_X9_valueOf_45 S e0 x1) fuel (G, x4_46, 0, 0))) else chk (inB (x1 - 1) 3) (bnd (G (e0 + 2) (x1 - 1).toNatClampNeg) (fun x3_4 => chk (inB x1 3) (bnd (G (e0 + 2) x1.toNatClampNeg) (fun x4_6 => iter (q_X9_valueOf_45 S e0 x1) fuel (G, x4_6, 0, x3_4)))))) else some (G, 0))
theorem kyX9_valueOf : Ky yX9_valueOf cX9_valueOf 9 (some FieldType.int) 2 := ⟨u4_8, u1_13, by decide, by decide, by decide, by decide +kernel⟩
set_option maxHeartbeats 4000000 in
set_option maxRecDepth 100000 in
theorem c_X9_valueOf (l : Launch) (D : va_G) (K : List Nat) (sh : Nat → Ent) (ad : Nat → Nat) (cy : Nat → ClassId) (X : va_W) (B : State → Prop) (hcl : Bcl (AS K ad X) B) (S : Nat → Nat) (hE : HC S K sh) (e0 : Nat) (he0 : txE S e0 = true) (G : Mem) (L : MemL) (O : MemO) (x1 : Int32) {Gz : Mem} {vz : Int32} (hf : f_X9_valueOf G S e0 x1 = some (Gz, vz)) : Met l yX9_valueOf (wsU yX9_valueOf cX9_valueOf 9 (some FieldType.int)) (rmX 2 0 0) (va_Pc [.ref (ad e0), .int x1, .ref (ad 129)] (PS D K sh ad cy X B G L O)) (QI (AS K ad X) (PH D K sh ad cy X Gz L O) vz) 0 0 (AS K ad X) := by
  refine s_met (by decide) (Nat.le_of_ble_eq_true rfl) ?_
  intro p e s m args below meth c ls H locs E hK hBs hnm hI hl
  have hl : lv_has ls 9 [(0, .ref (ad e0)), (1, .int x1), (2, .ref (ad 129))] := hl
  have E : Cx p s m args meth c RX9 cX9_valueOf 9 (some FieldType.int) := E
  obtain ⟨hx, hb, hr, hml, hown, hu, hlocks⟩ := id E
  have B273 : ∀ (k45 : (Mem × Int32 × Int32 × Int32) → Option (Mem × Int32)) (hk45 : ∀ (G : Mem) (x4 : Int32) (x5 : Int32) (x6 : Int32) (H : Heap) (locs : List Loc) (ls : Array Slot), lv_has ls 9 [(0, .ref (ad e0)), (2, .ref (ad 129)), (4, .int x4), (5, .int x5), (6, .int x6)] → IS D K sh ad cy X (AS K ad X) s.heap H locs G L O → k45 (G, x4, x5, x6) = some (Gz, vz) → W p l e (rmX 2 0 0) s m args below meth c H locs 0 0 (MQ below (QI (AS K ad X) (PH D K sh ad cy X Gz L O) vz) args s 0 0 (AS K ad X)) (F0 m 45 ls []))  (G : Mem) (x4 : Int32) (x5 : Int32) (x6 : Int32) (H : Heap) (locs : List Loc) (ls : Array Slot), lv_has ls 9 [(0, .ref (ad e0)), (2, .ref (ad 129)), (4, .int x4), (5, .int x5), (6, .int x6)] → IS D K sh ad cy X (AS K ad X) s.heap H locs G L O → j_X9_valueOf_273 S e0 x1 k45 G x4 x5 x6 = some (Gz, vz) → W p l e (rmX 2 0 0) s m args below meth c H locs 0 0 (MQ below (QI (AS K ad X) (PH D K sh ad cy X Gz L O) vz) args s 0 0 (AS K ad X)) (F0 m 273 ls []) := by
    intro k45 hk45 G x4 x5 x6 H locs ls hl hI hf
    rw [j_X9_valueOf_273] at hf
    obtain ⟨x6_18, ex6_18, hf⟩ := bnd_i hf
    refine lv_iinc (v := x6_18) (lv' := [(6, .int x6_18), (0, .ref (ad e0)), (2, .ref (ad 129)), (4, .int x4), (5, .int x5)]) hx hb dX9_valueOf_273 hl (k := 4) rfl (by rw [ex6_18]; rfl) (by decide) rfl (fun ls hl => ?_)
    refine lv_goto (tgt := 45) hx hb dX9_valueOf_276 (by decide) ?_
    exact hk45 G x4 x5 x6_18 H locs ls (lv_sub hl [1, 2, 3, 4, 0] rfl) hI hf
  have B232 : ∀ (k45 : (Mem × Int32 × Int32 × Int32) → Option (Mem × Int32)) (hk45 : ∀ (G : Mem) (x4 : Int32) (x5 : Int32) (x6 : Int32) (H : Heap) (locs : List Loc) (ls : Array Slot), lv_has ls 9 [(0, .ref (ad e0)), (2, .ref (ad 129)), (4, .int x4), (5, .int x5), (6, .int x6)] → IS D K sh ad cy X (AS K ad X) s.heap H locs G L O → k45 (G, x4, x5, x6) = some (Gz, vz) → W p l e (rmX 2 0 0) s m args below meth c H locs 0 0 (MQ below (QI (AS K ad X) (PH D K sh ad cy X Gz L O) vz) args s 0 0 (AS K ad X)) (F0 m 45 ls []))  (G : Mem) (x4 : Int32) (x5 : Int32) (x6 : Int32) (x7 : Int32) (H : Heap) (locs : List Loc) (ls : Array Slot), lv_has ls 9 [(0, .ref (ad e0)), (2, .ref (ad 129)), (4, .int x4), (5, .int x5), (6, .int x6), (7, .int x7)] → IS D K sh ad cy X (AS K ad X) s.heap H locs G L O → j_X9_valueOf_232 S e0 x1 k45 G x4 x5 x6 x7 = some (Gz, vz) → W p l e (rmX 2 0 0) s m args below meth c H locs 0 0 (MQ below (QI (AS K ad X) (PH D K sh ad cy X Gz L O) vz) args s 0 0 (AS K ad X)) (F0 m 232 ls []) := by
    intro k45 hk45 G x4 x5 x6 x7 H locs ls hl hI hf
    rw [j_X9_valueOf_232] at hf
    refine lv_iload hx hb dX9_valueOf_232 (lv_at hl 3 rfl) ?_
    refine lv_iconst (v := 2) hx hb dX9_valueOf_234 (by decide) ?_
    refine lv_icmp_lt (tgt := 273) hx hb dX9_valueOf_235 (by decide) (fun c17 => ?_) (fun c17 => ?_)
    · have hf := ite_t c17 hf
      exact B273 _ hk45  G x4 x5 x6 H locs ls (lv_sub hl [0, 1, 2, 3, 4] rfl) hI hf
    · have hf := ite_f c17 hf
      refine lv_aload_n hx hb dX9_valueOf_238 rfl (lv_at hl 0 rfl) ?_
      refine s_get (v := .ref (ad (e0 + 3))) hx hb hu inU9 hown hK hI (hE.2.2 _ he0).1 rfl 2 (by decide) u2_158 (fun _ h => h) rfl rfl dX9_valueOf_239 ?_
      refine lv_iload hx hb dX9_valueOf_242 (lv_at hl 3 rfl) ?_
      refine lv_iconst (v := 2) hx hb dX9_valueOf_244 (by decide) ?_
      refine lv_isub hx hb dX9_valueOf_245 ?_
      refine lv_iload hx hb dX9_valueOf_246 (lv_at hl 5 rfl) ?_
      refine lv_aload_n hx hb dX9_valueOf_248 rfl (lv_at hl 0 rfl) ?_
      refine s_get (v := .ref (ad (e0 + 3))) hx hb hu inU9 hown hK hI (hE.2.2 _ he0).1 rfl 2 (by decide) u2_158 (fun _ h => h) rfl rfl dX9_valueOf_249 ?_
      refine lv_iload hx hb dX9_valueOf_252 (lv_at hl 3 rfl) ?_
      refine lv_iconst (v := 2) hx hb dX9_valueOf_254 (by decide) ?_
      refine lv_isub hx hb dX9_valueOf_255 ?_
      obtain ⟨h19, hf⟩ := chk_i hf
      refine s_ild hx hb hK hI (hE.2.2 _ he0).2.2.2 (inB_i h19) dX9_valueOf_256 ?_
      refine lv_aload_n hx hb dX9_valueOf_257 rfl (lv_at hl 0 rfl) ?_
      refine s_get (v := .ref (ad (e0 + 3))) hx hb hu inU9 hown hK hI (hE.2.2 _ he0).1 rfl 2 (by decide) u2_158 (fun _ h => h) rfl rfl dX9_valueOf_258 ?_
      refine lv_iload hx hb dX9_valueOf_261 (lv_at hl 3 rfl) ?_
      refine lv_iconst (v := 1) hx hb dX9_valueOf_263 (by decide) ?_
      refine lv_isub hx hb dX9_valueOf_264 ?_
      obtain ⟨h20, hf⟩ := chk_i hf
      refine s_ild hx hb hK hI (hE.2.2 _ he0).2.2.2 (inB_i h20) dX9_valueOf_265 ?_
      refine s_cSP (np := 3) (rest := [.int (x5 - 2), .ref (ad (e0 + 3))]) E (c_X9_joined l x7 (G (e0 + 3) (x5 - 2).toNatClampNeg) (G (e0 + 3) (x5 - 1).toNatClampNeg) rfl) kyX9_joined u4_11 u4_12 (by decide) rfl hl.1 rfl (Nat.le_of_ble_eq_true rfl) ⟨Nat.zero_le _, Nat.zero_le _⟩ dX9_valueOf_266 ?_
      obtain ⟨h21, hf⟩ := chk_i hf
      obtain ⟨G22, eG22, hf⟩ := bnd_i hf
      refine s_ist hx hb hK hI (hE.2.2 _ he0).2.2.2 (inB_i h21) eG22 dX9_valueOf_269 (fun H locs hI => ?_)
      obtain ⟨x5_23, ex5_23, hf⟩ := bnd_i hf
      refine lv_iinc (v := x5_23) (lv' := [(5, .int x5_23), (0, .ref (ad e0)), (2, .ref (ad 129)), (4, .int x4), (6, .int x6), (7, .int x7)]) hx hb dX9_valueOf_270 hl (k := 3) rfl (by rw [ex5_23]; rfl) (by decide) rfl (fun ls hl => ?_)
      exact B273 _ hk45  G22 x4 x5_23 x6 H locs ls (lv_sub hl [1, 2, 3, 0, 4] rfl) hI hf
  have B197 : ∀ (k45 : (Mem × Int32 × Int32 × Int32) → Option (Mem × Int32)) (hk45 : ∀ (G : Mem) (x4 : Int32) (x5 : Int32) (x6 : Int32) (H : Heap) (locs : List Loc) (ls : Array Slot), lv_has ls 9 [(0, .ref (ad e0)), (2, .ref (ad 129)), (4, .int x4), (5, .int x5), (6, .int x6)] → IS D K sh ad cy X (AS K ad X) s.heap H locs G L O → k45 (G, x4, x5, x6) = some (Gz, vz) → W p l e (rmX 2 0 0) s m args below meth c H locs 0 0 (MQ below (QI (AS K ad X) (PH D K sh ad cy X Gz L O) vz) args s 0 0 (AS K ad X)) (F0 m 45 ls []))  (G : Mem) (x4 : Int32) (x5 : Int32) (x6 : Int32) (x7 : Int32) (H : Heap) (locs : List Loc) (ls : Array Slot), lv_has ls 9 [(0, .ref (ad e0)), (2, .ref (ad 129)), (4, .int x4), (5, .int x5), (6, .int x6), (7, .int x7)] → IS D K sh ad cy X (AS K ad X) s.heap H locs G L O → j_X9_valueOf_197 S e0 x1 k45 G x4 x5 x6 x7 = some (Gz, vz) → W p l e (rmX 2 0 0) s m args below meth c H locs 0 0 (MQ below (QI (AS K ad X) (PH D K sh ad cy X Gz L O) vz) args s 0 0 (AS K ad X)) (F0 m 197 ls []) := by
    intro k45 hk45 G x4 x5 x6 x7 H locs ls hl hI hf
    rw [j_X9_valueOf_197] at hf
    refine lv_iload hx hb dX9_valueOf_197 (lv_at hl 5 rfl) ?_
    refine lv_bipush (v := 8) hx hb dX9_valueOf_199 (by decide) ?_
    refine lv_icmp_ne (tgt := 232) hx hb dX9_valueOf_201 (by decide) (fun c16 => ?_) (fun c16 => ?_)
    · have hf := ite_f c16 hf
      exact B232 _ hk45  G x4 x5 x6 x7 H locs ls (lv_sub hl [0, 1, 2, 3, 4, 5] rfl) hI hf
    · have hf := ite_t c16 hf
      refine lv_iload hx hb dX9_valueOf_204 (lv_at hl 3 rfl) ?_
      refine lv_iconst (v := 1) hx hb dX9_valueOf_206 (by decide) ?_
      refine lv_icmp_lt (tgt := 232) hx hb dX9_valueOf_207 (by decide) (fun c24 => ?_) (fun c24 => ?_)
      · have hf := ite_t c24 hf
        exact B232 _ hk45  G x4 x5 x6 x7 H locs ls (lv_sub hl [0, 1, 2, 3, 4, 5] rfl) hI hf
      · have hf := ite_f c24 hf
        refine lv_aload_n hx hb dX9_valueOf_210 rfl (lv_at hl 0 rfl) ?_
        refine s_get (v := .ref (ad (e0 + 3))) hx hb hu inU9 hown hK hI (hE.2.2 _ he0).1 rfl 2 (by decide) u2_158 (fun _ h => h) rfl rfl dX9_valueOf_211 ?_
        refine lv_iload hx hb dX9_valueOf_214 (lv_at hl 3 rfl) ?_
        refine lv_iconst (v := 1) hx hb dX9_valueOf_216 (by decide) ?_
        refine lv_isub hx hb dX9_valueOf_217 ?_
        refine lv_aload_n hx hb dX9_valueOf_218 rfl (lv_at hl 0 rfl) ?_
        refine s_get (v := .ref (ad (e0 + 3))) hx hb hu inU9 hown hK hI (hE.2.2 _ he0).1 rfl 2 (by decide) u2_158 (fun _ h => h) rfl rfl dX9_valueOf_219 ?_
        refine lv_iload hx hb dX9_valueOf_222 (lv_at hl 3 rfl) ?_
        refine lv_iconst (v := 1) hx hb dX9_valueOf_224 (by decide) ?_
        refine lv_isub hx hb dX9_valueOf_225 ?_
        obtain ⟨h25, hf⟩ := chk_i hf
        refine s_ild hx hb hK hI (hE.2.2 _ he0).2.2.2 (inB_i h25) dX9_valueOf_226 ?_
        refine lv_ineg hx hb dX9_valueOf_227 ?_
        obtain ⟨h26, hf⟩ := chk_i hf
        obtain ⟨G27, eG27, hf⟩ := bnd_i hf
        refine s_ist hx hb hK hI (hE.2.2 _ he0).2.2.2 (inB_i h26) eG27 dX9_valueOf_228 (fun H locs hI => ?_)
        refine lv_goto (tgt := 273) hx hb dX9_valueOf_229 (by decide) ?_
        exact B273 _ hk45  G27 x4 x5 x6 H locs ls (lv_sub hl [0, 1, 2, 3, 4] rfl) hI hf
  have B153 : ∀ (k45 : (Mem × Int32 × Int32 × Int32) → Option (Mem × Int32)) (hk45 : ∀ (G : Mem) (x4 : Int32) (x5 : Int32) (x6 : Int32) (H : Heap) (locs : List Loc) (ls : Array Slot), lv_has ls 9 [(0, .ref (ad e0)), (2, .ref (ad 129)), (4, .int x4), (5, .int x5), (6, .int x6)] → IS D K sh ad cy X (AS K ad X) s.heap H locs G L O → k45 (G, x4, x5, x6) = some (Gz, vz) → W p l e (rmX 2 0 0) s m args below meth c H locs 0 0 (MQ below (QI (AS K ad X) (PH D K sh ad cy X Gz L O) vz) args s 0 0 (AS K ad X)) (F0 m 45 ls []))  (G : Mem) (x4 : Int32) (x5 : Int32) (x6 : Int32) (x7 : Int32) (H : Heap) (locs : List Loc) (ls : Array Slot), lv_has ls 9 [(0, .ref (ad e0)), (2, .ref (ad 129)), (4, .int x4), (5, .int x5), (6, .int x6), (7, .int x7)] → IS D K sh ad cy X (AS K ad X) s.heap H locs G L O → j_X9_valueOf_153 S e0 x1 k45 G x4 x5 x6 x7 = some (Gz, vz) → W p l e (rmX 2 0 0) s m args below meth c H locs 0 0 (MQ below (QI (AS K ad X) (PH D K sh ad cy X Gz L O) vz) args s 0 0 (AS K ad X)) (F0 m 153 ls []) := by
    intro k45 hk45 G x4 x5 x6 x7 H locs ls hl hI hf
    rw [j_X9_valueOf_153] at hf
    refine lv_iload hx hb dX9_valueOf_153 (lv_at hl 5 rfl) ?_
    refine lv_iconst (v := 5) hx hb dX9_valueOf_155 (by decide) ?_
    refine lv_icmp_ne (tgt := 197) hx hb dX9_valueOf_156 (by decide) (fun c15 => ?_) (fun c15 => ?_)
    · have hf := ite_f c15 hf
      exact B197 _ hk45  G x4 x5 x6 x7 H locs ls (lv_sub hl [0, 1, 2, 3, 4, 5] rfl) hI hf
    · have hf := ite_t c15 hf
      refine lv_iload hx hb dX9_valueOf_159 (lv_at hl 3 rfl) ?_
      refine lv_iconst (v := 1) hx hb dX9_valueOf_161 (by decide) ?_
      refine lv_icmp_lt (tgt := 197) hx hb dX9_valueOf_162 (by decide) (fun c28 => ?_) (fun c28 => ?_)
      · have hf := ite_t c28 hf
        exact B197 _ hk45  G x4 x5 x6 x7 H locs ls (lv_sub hl [0, 1, 2, 3, 4, 5] rfl) hI hf
      · have hf := ite_f c28 hf
        refine lv_aload_n hx hb dX9_valueOf_165 rfl (lv_at hl 0 rfl) ?_
        refine s_get (v := .ref (ad (e0 + 3))) hx hb hu inU9 hown hK hI (hE.2.2 _ he0).1 rfl 2 (by decide) u2_158 (fun _ h => h) rfl rfl dX9_valueOf_166 ?_
        refine lv_iload hx hb dX9_valueOf_169 (lv_at hl 3 rfl) ?_
        refine lv_iconst (v := 1) hx hb dX9_valueOf_171 (by decide) ?_
        refine lv_isub hx hb dX9_valueOf_172 ?_
        refine lv_aload_n hx hb dX9_valueOf_173 rfl (lv_at hl 0 rfl) ?_
        refine s_get (v := .ref (ad (e0 + 3))) hx hb hu inU9 hown hK hI (hE.2.2 _ he0).1 rfl 2 (by decide) u2_158 (fun _ h => h) rfl rfl dX9_valueOf_174 ?_
        refine lv_iload hx hb dX9_valueOf_177 (lv_at hl 3 rfl) ?_
        refine lv_iconst (v := 1) hx hb dX9_valueOf_179 (by decide) ?_
        refine lv_isub hx hb dX9_valueOf_180 ?_
        obtain ⟨h29, hf⟩ := chk_i hf
        refine s_ild hx hb hK hI (hE.2.2 _ he0).2.2.2 (inB_i h29) dX9_valueOf_181 ?_
        refine lv_if_ne (tgt := 189) hx hb dX9_valueOf_182 (by decide) (fun c30 => ?_) (fun c30 => ?_)
        · have hf := ite_f c30 hf
          refine lv_iconst (v := 0) hx hb dX9_valueOf_189 (by decide) ?_
          refine s_cSNP (host := RX11) (np := 1) (rest := [.int (x5 - 1), .ref (ad (e0 + 3))]) E hK (c_X11_truth l 0 rfl) kyX11_truth (by decide) u3_138 (by decide) rfl hl.1 rfl (Nat.le_of_ble_eq_true rfl) ⟨Nat.zero_le _, Nat.zero_le _⟩ dX9_valueOf_190 ?_
          obtain ⟨h31, hf⟩ := chk_i hf
          obtain ⟨G32, eG32, hf⟩ := bnd_i hf
          refine s_ist hx hb hK hI (hE.2.2 _ he0).2.2.2 (inB_i h31) eG32 dX9_valueOf_193 (fun H locs hI => ?_)
          refine lv_goto (tgt := 273) hx hb dX9_valueOf_194 (by decide) ?_
          exact B273 _ hk45  G32 x4 x5 x6 H locs ls (lv_sub hl [0, 1, 2, 3, 4] rfl) hI hf
        · have hf := ite_t c30 hf
          refine lv_iconst (v := 1) hx hb dX9_valueOf_185 (by decide) ?_
          refine lv_goto (tgt := 190) hx hb dX9_valueOf_186 (by decide) ?_
          refine s_cSNP (host := RX11) (np := 1) (rest := [.int (x5 - 1), .ref (ad (e0 + 3))]) E hK (c_X11_truth l 1 rfl) kyX11_truth (by decide) u3_138 (by decide) rfl hl.1 rfl (Nat.le_of_ble_eq_true rfl) ⟨Nat.zero_le _, Nat.zero_le _⟩ dX9_valueOf_190 ?_
          obtain ⟨h33, hf⟩ := chk_i hf
          obtain ⟨G34, eG34, hf⟩ := bnd_i hf
          refine s_ist hx hb hK hI (hE.2.2 _ he0).2.2.2 (inB_i h33) eG34 dX9_valueOf_193 (fun H locs hI => ?_)
          refine lv_goto (tgt := 273) hx hb dX9_valueOf_194 (by decide) ?_
          exact B273 _ hk45  G34 x4 x5 x6 H locs ls (lv_sub hl [0, 1, 2, 3, 4] rfl) hI hf
  have B115 : ∀ (k45 : (Mem × Int32 × Int32 × Int32) → Option (Mem × Int32)) (hk45 : ∀ (G : Mem) (x4 : Int32) (x5 : Int32) (x6 : Int32) (H : Heap) (locs : List Loc) (ls : Array Slot), lv_has ls 9 [(0, .ref (ad e0)), (2, .ref (ad 129)), (4, .int x4), (5, .int x5), (6, .int x6)] → IS D K sh ad cy X (AS K ad X) s.heap H locs G L O → k45 (G, x4, x5, x6) = some (Gz, vz) → W p l e (rmX 2 0 0) s m args below meth c H locs 0 0 (MQ below (QI (AS K ad X) (PH D K sh ad cy X Gz L O) vz) args s 0 0 (AS K ad X)) (F0 m 45 ls []))  (G : Mem) (x4 : Int32) (x5 : Int32) (x6 : Int32) (x7 : Int32) (x8 : Int32) (H : Heap) (locs : List Loc) (ls : Array Slot), lv_has ls 9 [(0, .ref (ad e0)), (2, .ref (ad 129)), (4, .int x4), (5, .int x5), (6, .int x6), (7, .int x7), (8, .int x8)] → IS D K sh ad cy X (AS K ad X) s.heap H locs G L O → j_X9_valueOf_115 S e0 x1 k45 G x4 x5 x6 x7 x8 = some (Gz, vz) → W p l e (rmX 2 0 0) s m args below meth c H locs 0 0 (MQ below (QI (AS K ad X) (PH D K sh ad cy X Gz L O) vz) args s 0 0 (AS K ad X)) (F0 m 115 ls []) := by
    intro k45 hk45 G x4 x5 x6 x7 x8 H locs ls hl hI hf
    rw [j_X9_valueOf_115] at hf
    refine lv_iload hx hb dX9_valueOf_115 (lv_at hl 5 rfl) ?_
    refine lv_bipush (v := 6) hx hb dX9_valueOf_117 (by decide) ?_
    refine lv_icmp_ne (tgt := 153) hx hb dX9_valueOf_119 (by decide) (fun c14 => ?_) (fun c14 => ?_)
    · have hf := ite_f c14 hf
      exact B153 _ hk45  G x4 x5 x6 x7 H locs ls (lv_sub hl [0, 1, 2, 3, 4, 5] rfl) hI hf
    · have hf := ite_t c14 hf
      refine lv_iload hx hb dX9_valueOf_122 (lv_at hl 3 rfl) ?_
      refine lv_bipush (v := 32) hx hb dX9_valueOf_124 (by decide) ?_
      refine lv_icmp_ge (tgt := 153) hx hb dX9_valueOf_126 (by decide) (fun c35 => ?_) (fun c35 => ?_)
      · have hf := ite_t c35 hf
        exact B153 _ hk45  G x4 x5 x6 x7 H locs ls (lv_sub hl [0, 1, 2, 3, 4, 5] rfl) hI hf
      · have hf := ite_f c35 hf
        refine lv_iload hx hb dX9_valueOf_129 (lv_at hl 6 rfl) ?_
        refine lv_aload_n hx hb dX9_valueOf_131 rfl (lv_at hl 1 rfl) ?_
        refine s_alen (t := 1) (t0 := 0) (by decide) rfl hx hb hK hI (mE hE.1 eC_129) dX9_valueOf_132 ?_
        refine lv_icmp_ge (tgt := 153) hx hb dX9_valueOf_133 (by decide) (fun c36 => ?_) (fun c36 => ?_)
        · have hf := ite_t c36 hf
          exact B153 _ hk45  G x4 x5 x6 x7 H locs ls (lv_sub hl [0, 1, 2, 3, 4, 5] rfl) hI hf
        · have hf := ite_f c36 hf
          refine lv_aload_n hx hb dX9_valueOf_136 rfl (lv_at hl 0 rfl) ?_
          refine s_get (v := .ref (ad (e0 + 3))) hx hb hu inU9 hown hK hI (hE.2.2 _ he0).1 rfl 2 (by decide) u2_158 (fun _ h => h) rfl rfl dX9_valueOf_137 ?_
          refine lv_iload hx hb dX9_valueOf_140 (lv_at hl 3 rfl) ?_
          refine lv_aload_n hx hb dX9_valueOf_142 rfl (lv_at hl 1 rfl) ?_
          refine lv_iload hx hb dX9_valueOf_143 (lv_at hl 6 rfl) ?_
          obtain ⟨h37, hf⟩ := chk_i hf
          refine s_ild hx hb hK hI (mE hE.1 eC_129) (inB_i h37) dX9_valueOf_145 ?_
          obtain ⟨h38, hf⟩ := chk_i hf
          obtain ⟨G39, eG39, hf⟩ := bnd_i hf
          refine s_ist hx hb hK hI (hE.2.2 _ he0).2.2.2 (inB_i h38) eG39 dX9_valueOf_146 (fun H locs hI => ?_)
          obtain ⟨x5_40, ex5_40, hf⟩ := bnd_i hf
          refine lv_iinc (v := x5_40) (lv' := [(5, .int x5_40), (0, .ref (ad e0)), (2, .ref (ad 129)), (4, .int x4), (6, .int x6), (7, .int x7), (8, .int x8)]) hx hb dX9_valueOf_147 hl (k := 3) rfl (by rw [ex5_40]; rfl) (by decide) rfl (fun ls hl => ?_)
          refine lv_goto (tgt := 273) hx hb dX9_valueOf_150 (by decide) ?_
          exact B273 _ hk45  G39 x4 x5_40 x6 H locs ls (lv_sub hl [1, 2, 3, 0, 4] rfl) hI hf
  have B45 : ∀   (n : Nat) (G : Mem) (x4 : Int32) (x5 : Int32) (x6 : Int32) (H : Heap) (locs : List Loc) (ls : Array Slot), lv_has ls 9 [(0, .ref (ad e0)), (2, .ref (ad 129)), (4, .int x4), (5, .int x5), (6, .int x6)] → IS D K sh ad cy X (AS K ad X) s.heap H locs G L O → iter (q_X9_valueOf_45 S e0 x1) n (G, x4, x5, x6) = some (Gz, vz) → W p l e (rmX 2 0 0) s m args below meth c H locs 0 0 (MQ below (QI (AS K ad X) (PH D K sh ad cy X Gz L O) vz) args s 0 0 (AS K ad X)) (F0 m 45 ls []) := by
    intro n
    induction n with
    | zero => intro G x4 x5 x6 H locs ls hl hI hf; exact iter_0 hf
    | succ n ih =>
      intro G x4 x5 x6 H locs ls hl hI hf
      have hf : q_X9_valueOf_45 S e0 x1 (iter (q_X9_valueOf_45 S e0 x1) n) (G, x4, x5, x6) = some (Gz, vz) := hf
      rw [q_X9_valueOf_45] at hf
      refine lv_iload hx hb dX9_valueOf_45 (lv_at hl 4 rfl) ?_
      refine lv_iload hx hb dX9_valueOf_47 (lv_at hl 2 rfl) ?_
      refine lv_icmp_ge (tgt := 279) hx hb dX9_valueOf_49 (by decide) (fun c7 => ?_) (fun c7 => ?_)
      · have hf := ite_t c7 hf
        refine lv_aload_n hx hb dX9_valueOf_279 rfl (lv_at hl 0 rfl) ?_
        refine s_get (v := .ref (ad (e0 + 3))) hx hb hu inU9 hown hK hI (hE.2.2 _ he0).1 rfl 2 (by decide) u2_158 (fun _ h => h) rfl rfl dX9_valueOf_280 ?_
        refine lv_iconst (v := 0) hx hb dX9_valueOf_283 (by decide) ?_
        refine s_ild hx hb hK hI (hE.2.2 _ he0).2.2.2 (inB_i (by decide)) dX9_valueOf_284 ?_
        cases hf
        exact s_iret hx hb hr hI.2.2 hI.1 hlocks dX9_valueOf_285
      · have hf := ite_f c7 hf
        refine lv_iload hx hb dX9_valueOf_52 (lv_at hl 4 rfl) ?_
        refine lv_aload_n hx hb dX9_valueOf_54 rfl (lv_at hl 0 rfl) ?_
        refine s_get (v := .ref (ad (e0 + 1))) hx hb hu inU9 hown hK hI (hE.2.2 _ he0).1 rfl 0 (by decide) u2_156 (fun _ h => h) rfl rfl dX9_valueOf_55 ?_
        refine s_alen (t := 1) (t0 := 0) (by decide) rfl hx hb hK hI (hE.2.2 _ he0).2.1 dX9_valueOf_58 ?_
        refine lv_icmp_ge (tgt := 279) hx hb dX9_valueOf_59 (by decide) (fun c8 => ?_) (fun c8 => ?_)
        · have hf := ite_t c8 hf
          refine lv_aload_n hx hb dX9_valueOf_279 rfl (lv_at hl 0 rfl) ?_
          refine s_get (v := .ref (ad (e0 + 3))) hx hb hu inU9 hown hK hI (hE.2.2 _ he0).1 rfl 2 (by decide) u2_158 (fun _ h => h) rfl rfl dX9_valueOf_280 ?_
          refine lv_iconst (v := 0) hx hb dX9_valueOf_283 (by decide) ?_
          refine s_ild hx hb hK hI (hE.2.2 _ he0).2.2.2 (inB_i (by decide)) dX9_valueOf_284 ?_
          cases hf
          exact s_iret hx hb hr hI.2.2 hI.1 hlocks dX9_valueOf_285
        · have hf := ite_f c8 hf
          refine lv_aload_n hx hb dX9_valueOf_62 rfl (lv_at hl 0 rfl) ?_
          refine s_get (v := .ref (ad (e0 + 1))) hx hb hu inU9 hown hK hI (hE.2.2 _ he0).1 rfl 0 (by decide) u2_156 (fun _ h => h) rfl rfl dX9_valueOf_63 ?_
          refine lv_iload hx hb dX9_valueOf_66 (lv_at hl 4 rfl) ?_
          obtain ⟨h9, hf⟩ := chk_i hf
          refine s_ild hx hb hK hI (hE.2.2 _ he0).2.1 (inB_i h9) dX9_valueOf_68 ?_
          refine lv_bipush (v := 64) hx hb dX9_valueOf_69 (by decide) ?_
          refine lv_irem hx hb dX9_valueOf_71 (by decide) ?_
          obtain ⟨x7_10, ex7_10, hf⟩ := bnd_i hf
          refine s_nmI ex7_10 ?_
          refine lv_istore (lv' := [(7, .int x7_10), (0, .ref (ad e0)), (2, .ref (ad 129)), (4, .int x4), (5, .int x5), (6, .int x6)]) hx hb dX9_valueOf_72 hl (by decide) rfl (fun ls hl => ?_)
          refine lv_aload_n hx hb dX9_valueOf_74 rfl (lv_at hl 1 rfl) ?_
          refine s_get (v := .ref (ad (e0 + 1))) hx hb hu inU9 hown hK hI (hE.2.2 _ he0).1 rfl 0 (by decide) u2_156 (fun _ h => h) rfl rfl dX9_valueOf_75 ?_
          refine lv_iload hx hb dX9_valueOf_78 (lv_at hl 5 rfl) ?_
          obtain ⟨h11, hf⟩ := chk_i hf
          refine s_ild hx hb hK hI (hE.2.2 _ he0).2.1 (inB_i h11) dX9_valueOf_80 ?_
          refine lv_bipush (v := 64) hx hb dX9_valueOf_81 (by decide) ?_
          refine lv_idiv hx hb dX9_valueOf_83 (by decide) ?_
          obtain ⟨x8_12, ex8_12, hf⟩ := bnd_i hf
          refine s_nmI ex8_12 ?_
          refine lv_istore (lv' := [(8, .int x8_12), (7, .int x7_10), (0, .ref (ad e0)), (2, .ref (ad 129)), (4, .int x4), (5, .int x5), (6, .int x6)]) hx hb dX9_valueOf_84 hl (by decide) rfl (fun ls hl => ?_)
          refine lv_iload hx hb dX9_valueOf_86 (lv_at hl 1 rfl) ?_
          refine lv_bipush (v := 7) hx hb dX9_valueOf_88 (by decide) ?_
          refine lv_icmp_ne (tgt := 115) hx hb dX9_valueOf_90 (by decide) (fun c13 => ?_) (fun c13 => ?_)
          · have hf := ite_f c13 hf
            exact B115 _ ih  G x4 x5 x6 x7_10 x8_12 H locs ls (lv_sub hl [2, 3, 4, 5, 6, 1, 0] rfl) hI hf
          · have hf := ite_t c13 hf
            refine lv_iload hx hb dX9_valueOf_93 (lv_at hl 5 rfl) ?_
            refine lv_bipush (v := 32) hx hb dX9_valueOf_95 (by decide) ?_
            refine lv_icmp_ge (tgt := 115) hx hb dX9_valueOf_97 (by decide) (fun c41 => ?_) (fun c41 => ?_)
            · have hf := ite_t c41 hf
              exact B115 _ ih  G x4 x5 x6 x7_10 x8_12 H locs ls (lv_sub hl [2, 3, 4, 5, 6, 1, 0] rfl) hI hf
            · have hf := ite_f c41 hf
              refine lv_aload_n hx hb dX9_valueOf_100 rfl (lv_at hl 2 rfl) ?_
              refine s_get (v := .ref (ad (e0 + 3))) hx hb hu inU9 hown hK hI (hE.2.2 _ he0).1 rfl 2 (by decide) u2_158 (fun _ h => h) rfl rfl dX9_valueOf_101 ?_
              refine lv_iload hx hb dX9_valueOf_104 (lv_at hl 5 rfl) ?_
              refine lv_iload hx hb dX9_valueOf_106 (lv_at hl 0 rfl) ?_
              obtain ⟨h42, hf⟩ := chk_i hf
              obtain ⟨G43, eG43, hf⟩ := bnd_i hf
              refine s_ist hx hb hK hI (hE.2.2 _ he0).2.2.2 (inB_i h42) eG43 dX9_valueOf_108 (fun H locs hI => ?_)
              obtain ⟨x5_44, ex5_44, hf⟩ := bnd_i hf
              refine lv_iinc (v := x5_44) (lv' := [(5, .int x5_44), (8, .int x8_12), (7, .int x7_10), (0, .ref (ad e0)), (2, .ref (ad 129)), (4, .int x4), (6, .int x6)]) hx hb dX9_valueOf_109 hl (k := 5) rfl (by rw [ex5_44]; rfl) (by decide) rfl (fun ls hl => ?_)
              refine lv_goto (tgt := 273) hx hb dX9_valueOf_112 (by decide) ?_
              exact B273 _ ih  G43 x4 x5_44 x6 H locs ls (lv_sub hl [3, 4, 5, 0, 6] rfl) hI hf
  rw [f_X9_valueOf] at hf
  refine lv_iload_n hx hb dX9_valueOf_0 rfl (lv_at hl 1 rfl) ?_
  refine lv_aload_n hx hb dX9_valueOf_1 rfl (lv_at hl 0 rfl) ?_
  refine s_get (v := .ref (ad (e0 + 2))) hx hb hu inU9 hown hK hI (hE.2.2 _ he0).1 rfl 1 (by decide) u2_157 (fun _ h => h) rfl rfl dX9_valueOf_2 ?_
  refine s_alen (t := 1) (t0 := 0) (by decide) rfl hx hb hK hI (hE.2.2 _ he0).2.2.1 dX9_valueOf_5 ?_
  refine s_cSNP (host := RX11) (np := 2) (rest := []) E hK (c_X11_outside l x1 (nI 3) rfl) kyX11_outside (by decide) u2_220 (by decide) rfl hl.1 rfl (Nat.le_of_ble_eq_true rfl) ⟨Nat.zero_le _, Nat.zero_le _⟩ dX9_valueOf_6 ?_
  refine lv_if_eq (tgt := 14) hx hb dX9_valueOf_9 (by decide) (fun c1 => ?_) (fun c1 => ?_)
  · have hf := ite_t c1 hf
    refine lv_iload_n hx hb dX9_valueOf_14 rfl (lv_at hl 1 rfl) ?_
    refine lv_if_ne (tgt := 22) hx hb dX9_valueOf_15 (by decide) (fun c2 => ?_) (fun c2 => ?_)
    · have hf := ite_f c2 hf
      refine lv_aload_n hx hb dX9_valueOf_22 rfl (lv_at hl 0 rfl) ?_
      refine s_get (v := .ref (ad (e0 + 2))) hx hb hu inU9 hown hK hI (hE.2.2 _ he0).1 rfl 1 (by decide) u2_157 (fun _ h => h) rfl rfl dX9_valueOf_23 ?_
      refine lv_iload_n hx hb dX9_valueOf_26 rfl (lv_at hl 1 rfl) ?_
      refine lv_iconst (v := 1) hx hb dX9_valueOf_27 (by decide) ?_
      refine lv_isub hx hb dX9_valueOf_28 ?_
      obtain ⟨h3, hf⟩ := chk_i hf
      refine s_ild hx hb hK hI (hE.2.2 _ he0).2.2.1 (inB_i h3) dX9_valueOf_29 ?_
      obtain ⟨x3_4, ex3_4, hf⟩ := bnd_i hf
      refine s_nmI ex3_4 ?_
      refine lv_istore_n (lv' := [(3, .int x3_4), (0, .ref (ad e0)), (1, .int x1), (2, .ref (ad 129))]) hx hb dX9_valueOf_30 rfl hl (by decide) rfl (fun ls hl => ?_)
      refine lv_aload_n hx hb dX9_valueOf_31 rfl (lv_at hl 1 rfl) ?_
      refine s_get (v := .ref (ad (e0 + 2))) hx hb hu inU9 hown hK hI (hE.2.2 _ he0).1 rfl 1 (by decide) u2_157 (fun _ h => h) rfl rfl dX9_valueOf_32 ?_
      refine lv_iload_n hx hb dX9_valueOf_35 rfl (lv_at hl 2 rfl) ?_
      obtain ⟨h5, hf⟩ := chk_i hf
      refine s_ild hx hb hK hI (hE.2.2 _ he0).2.2.1 (inB_i h5) dX9_valueOf_36 ?_
      obtain ⟨x4_6, ex4_6, hf⟩ := bnd_i hf
      refine s_nmI ex4_6 ?_
      refine lv_istore (lv' := [(4, .int x4_6), (3, .int x3_4), (0, .ref (ad e0)), (1, .int x1), (2, .ref (ad 129))]) hx hb dX9_valueOf_37 hl (by decide) rfl (fun ls hl => ?_)
      refine lv_iconst (v := 0) hx hb dX9_valueOf_39 (by decide) ?_
      refine lv_istore (lv' := [(5, .int 0), (4, .int x4_6), (3, .int x3_4), (0, .ref (ad e0)), (1, .int x1), (2, .ref (ad 129))]) hx hb dX9_valueOf_40 hl (by decide) rfl (fun ls hl => ?_)
      refine lv_iload_n hx hb dX9_valueOf_42 rfl (lv_at hl 2 rfl) ?_
      refine lv_istore (lv' := [(6, .int x3_4), (5, .int 0), (4, .int x4_6), (3, .int x3_4), (0, .ref (ad e0)), (1, .int x1), (2, .ref (ad 129))]) hx hb dX9_valueOf_43 hl (by decide) rfl (fun ls hl => ?_)
      exact B45   fuel G x4_6 0 x3_4 H locs ls (lv_sub hl [4, 6, 2, 1, 0] rfl) hI hf
    · have hf := ite_t c2 hf
      refine lv_iconst (v := 0) hx hb dX9_valueOf_18 (by decide) ?_
      refine lv_goto (tgt := 30) hx hb dX9_valueOf_19 (by decide) ?_
      refine lv_istore_n (lv' := [(3, .int 0), (0, .ref (ad e0)), (1, .int x1), (2, .ref (ad 129))]) hx hb dX9_valueOf_30 rfl hl (by decide) rfl (fun ls hl => ?_)
      refine lv_aload_n hx hb dX9_valueOf_31 rfl (lv_at hl 1 rfl) ?_
      refine s_get (v := .ref (ad (e0 + 2))) hx hb hu inU9 hown hK hI (hE.2.2 _ he0).1 rfl 1 (by decide) u2_157 (fun _ h => h) rfl rfl dX9_valueOf_32 ?_
      refine lv_iload_n hx hb dX9_valueOf_35 rfl (lv_at hl 2 rfl) ?_
      obtain ⟨h45, hf⟩ := chk_i hf
      refine s_ild hx hb hK hI (hE.2.2 _ he0).2.2.1 (inB_i h45) dX9_valueOf_36 ?_
      obtain ⟨x4_46, ex4_46, hf⟩ := bnd_i hf
      refine s_nmI ex4_46 ?_
      refine lv_istore (lv' := [(4, .int x4_46), (3, .int 0), (0, .ref (ad e0)), (1, .int x1), (2, .ref (ad 129))]) hx hb dX9_valueOf_37 hl (by decide) rfl (fun ls hl => ?_)
      refine lv_iconst (v := 0) hx hb dX9_valueOf_39 (by decide) ?_
      refine lv_istore (lv' := [(5, .int 0), (4, .int x4_46), (3, .int 0), (0, .ref (ad e0)), (1, .int x1), (2, .ref (ad 129))]) hx hb dX9_valueOf_40 hl (by decide) rfl (fun ls hl => ?_)
      refine lv_iload_n hx hb dX9_valueOf_42 rfl (lv_at hl 2 rfl) ?_
      refine lv_istore (lv' := [(6, .int 0), (5, .int 0), (4, .int x4_46), (3, .int 0), (0, .ref (ad e0)), (1, .int x1), (2, .ref (ad 129))]) hx hb dX9_valueOf_43 hl (by decide) rfl (fun ls hl => ?_)
      exact B45   fuel G x4_46 0 0 H locs ls (lv_sub hl [4, 6, 2, 1, 0] rfl) hI hf
  · have hf := ite_f c1 hf
    refine lv_iconst (v := 0) hx hb dX9_valueOf_12 (by decide) ?_
    cases hf
    exact s_iret hx hb hr hI.2.2 hI.1 hlocks dX9_valueOf_13
noncomputable def f_X11_change (G : Mem) (e0 : Nat) (n0 : Nat) (x1 : Int32) (x2 : Int32) (x3 : Int32) : Option (Mem × Int32) := (if (f_X11_outside x1 (nI n0)) = 0 then (if (f_X11_outside x2 x3) = 0 then chk (inB x1 n0) (bnd (G e0 x1.toNatClampNeg) (fun x4_4 => chk (inB x1 n0) (bnd (up2 G e0 x1.toNatClampNeg x2) (fun G6 => some (G6, x4_4))))) else some (G, (-2))) else some (G, (-2)))
theorem kyX11_change : Ky yX11_change cX11_change 5 (some FieldType.int) 4 := ⟨u2_218, u1_1, by decide, by decide, by decide, by decide +kernel⟩
set_option maxHeartbeats 4000000 in
set_option maxRecDepth 100000 in
theorem c_X11_change (l : Launch) (D : va_G) (K : List Nat) (sh : Nat → Ent) (ad : Nat → Nat) (cy : Nat → ClassId) (X : va_W) (B : State → Prop) (hcl : Bcl (AS K ad X) B) (S : Nat → Nat) (hE : HC S K sh) (e0 n0 : Nat) (he0 : e0 ∈ K ∧ sh e0 = (1, n0, [])) (G : Mem) (L : MemL) (O : MemO) (x1 : Int32) (x2 : Int32) (x3 : Int32) {Gz : Mem} {vz : Int32} (hf : f_X11_change G e0 n0 x1 x2 x3 = some (Gz, vz)) : Met l yX11_change (wsU yX11_change cX11_change 5 (some FieldType.int)) (rmX 2 0 0) (va_Pc [.ref (ad e0), .int x1, .int x2, .int x3] (PS D K sh ad cy X B G L O)) (QI (AS K ad X) (PH D K sh ad cy X Gz L O) vz) 0 0 (AS K ad X) := by
  refine s_met (by decide) (Nat.le_of_ble_eq_true rfl) ?_
  intro p e s m args below meth c ls H locs E hK hBs hnm hI hl
  have hl : lv_has ls 5 [(0, .ref (ad e0)), (1, .int x1), (2, .int x2), (3, .int x3)] := hl
  have E : Cx p s m args meth c RX11 cX11_change 5 (some FieldType.int) := E
  obtain ⟨hx, hb, hr, hml, hown, hu, hlocks⟩ := id E
  rw [f_X11_change] at hf
  refine lv_iload_n hx hb dX11_change_0 rfl (lv_at hl 1 rfl) ?_
  refine lv_aload_n hx hb dX11_change_1 rfl (lv_at hl 0 rfl) ?_
  refine s_alen (t := 1) (t0 := 0) (by decide) rfl hx hb hK hI he0 dX11_change_2 ?_
  refine s_cSP (np := 2) (rest := []) E (c_X11_outside l x1 (nI n0) rfl) kyX11_outside u2_219 u2_220 (by decide) rfl hl.1 rfl (Nat.le_of_ble_eq_true rfl) ⟨Nat.zero_le _, Nat.zero_le _⟩ dX11_change_3 ?_
  refine lv_if_ne (tgt := 17) hx hb dX11_change_6 (by decide) (fun c1 => ?_) (fun c1 => ?_)
  · have hf := ite_f c1 hf
    refine lv_bipush (v := (-2)) hx hb dX11_change_17 (by decide) ?_
    cases hf
    exact s_iret hx hb hr hI.2.2 hI.1 hlocks dX11_change_19
  · have hf := ite_t c1 hf
    refine lv_iload_n hx hb dX11_change_9 rfl (lv_at hl 2 rfl) ?_
    refine lv_iload_n hx hb dX11_change_10 rfl (lv_at hl 3 rfl) ?_
    refine s_cSP (np := 2) (rest := []) E (c_X11_outside l x2 x3 rfl) kyX11_outside u2_219 u2_220 (by decide) rfl hl.1 rfl (Nat.le_of_ble_eq_true rfl) ⟨Nat.zero_le _, Nat.zero_le _⟩ dX11_change_11 ?_
    refine lv_if_eq (tgt := 20) hx hb dX11_change_14 (by decide) (fun c2 => ?_) (fun c2 => ?_)
    · have hf := ite_t c2 hf
      refine lv_aload_n hx hb dX11_change_20 rfl (lv_at hl 0 rfl) ?_
      refine lv_iload_n hx hb dX11_change_21 rfl (lv_at hl 1 rfl) ?_
      obtain ⟨h3, hf⟩ := chk_i hf
      refine s_ild hx hb hK hI he0 (inB_i h3) dX11_change_22 ?_
      obtain ⟨x4_4, ex4_4, hf⟩ := bnd_i hf
      refine s_nmI ex4_4 ?_
      refine lv_istore (lv' := [(4, .int x4_4), (0, .ref (ad e0)), (1, .int x1), (2, .int x2), (3, .int x3)]) hx hb dX11_change_23 hl (by decide) rfl (fun ls hl => ?_)
      refine lv_aload_n hx hb dX11_change_25 rfl (lv_at hl 1 rfl) ?_
      refine lv_iload_n hx hb dX11_change_26 rfl (lv_at hl 2 rfl) ?_
      refine lv_iload_n hx hb dX11_change_27 rfl (lv_at hl 3 rfl) ?_
      obtain ⟨h5, hf⟩ := chk_i hf
      obtain ⟨G6, eG6, hf⟩ := bnd_i hf
      refine s_ist hx hb hK hI he0 (inB_i h5) eG6 dX11_change_28 (fun H locs hI => ?_)
      refine lv_iload hx hb dX11_change_29 (lv_at hl 0 rfl) ?_
      cases hf
      exact s_iret hx hb hr hI.2.2 hI.1 hlocks dX11_change_31
    · have hf := ite_f c2 hf
      refine lv_bipush (v := (-2)) hx hb dX11_change_17 (by decide) ?_
      cases hf
      exact s_iret hx hb hr hI.2.2 hI.1 hlocks dX11_change_19
noncomputable def q_X11_sumOf_4 (G : Mem) (e0 : Nat) (n0 : Nat) (x1 : Int32)  (rec : (Int32 × Int32) → Option (Int32)) : (Int32 × Int32) → Option (Int32) := fun (x2, x3) => (if x1 ≤ x3 then some x2 else (if (nI n0) ≤ x3 then some x2 else chk (inB x3 n0) (bnd (x2 + (G e0 x3.toNatClampNeg)) (fun x2_4 => bnd (x3 + 1) (fun x3_5 => rec (x2_4, x3_5))))))
noncomputable def f_X11_sumOf (G : Mem) (e0 : Nat) (n0 : Nat) (x1 : Int32) : Option (Int32) := iter (q_X11_sumOf_4 G e0 n0 x1) fuel (0, 0)
theorem kyX11_sumOf : Ky yX11_sumOf cX11_sumOf 4 (some FieldType.int) 2 := ⟨u4_68, u1_1, by decide, by decide, by decide, by decide +kernel⟩
set_option maxHeartbeats 4000000 in
set_option maxRecDepth 100000 in
theorem c_X11_sumOf (l : Launch) (D : va_G) (K : List Nat) (sh : Nat → Ent) (ad : Nat → Nat) (cy : Nat → ClassId) (X : va_W) (B : State → Prop) (hcl : Bcl (AS K ad X) B) (S : Nat → Nat) (hE : HC S K sh) (e0 n0 : Nat) (he0 : e0 ∈ K ∧ sh e0 = (1, n0, [])) (G : Mem) (L : MemL) (O : MemO) (x1 : Int32)  {vz : Int32} (hf : f_X11_sumOf G e0 n0 x1 = some vz) : Met l yX11_sumOf (wsU yX11_sumOf cX11_sumOf 4 (some FieldType.int)) (rmX 1 0 0) (va_Pc [.ref (ad e0), .int x1] (PS D K sh ad cy X B G L O)) (QI (AS K ad X) (PH D K sh ad cy X G L O) vz) 0 0 (AS K ad X) := by
  refine s_met (by decide) (Nat.le_of_ble_eq_true rfl) ?_
  intro p e s m args below meth c ls H locs E hK hBs hnm hI hl
  have hl : lv_has ls 4 [(0, .ref (ad e0)), (1, .int x1)] := hl
  have E : Cx p s m args meth c RX11 cX11_sumOf 4 (some FieldType.int) := E
  obtain ⟨hx, hb, hr, hml, hown, hu, hlocks⟩ := id E
  have B4 : ∀   (n : Nat) (x2 : Int32) (x3 : Int32) (H : Heap) (locs : List Loc) (ls : Array Slot), lv_has ls 4 [(0, .ref (ad e0)), (1, .int x1), (2, .int x2), (3, .int x3)] → IS D K sh ad cy X (AS K ad X) s.heap H locs G L O → iter (q_X11_sumOf_4 G e0 n0 x1) n (x2, x3) = some vz → W p l e (rmX 1 0 0) s m args below meth c H locs 0 0 (MQ below (QI (AS K ad X) (PH D K sh ad cy X G L O) vz) args s 0 0 (AS K ad X)) (F0 m 4 ls []) := by
    intro n
    induction n with
    | zero => intro x2 x3 H locs ls hl hI hf; exact iter_0 hf
    | succ n ih =>
      intro x2 x3 H locs ls hl hI hf
      have hf : q_X11_sumOf_4 G e0 n0 x1 (iter (q_X11_sumOf_4 G e0 n0 x1) n) (x2, x3) = some vz := hf
      rw [q_X11_sumOf_4] at hf
      refine lv_iload_n hx hb dX11_sumOf_4 rfl (lv_at hl 3 rfl) ?_
      refine lv_iload_n hx hb dX11_sumOf_5 rfl (lv_at hl 1 rfl) ?_
      refine lv_icmp_ge (tgt := 27) hx hb dX11_sumOf_6 (by decide) (fun c1 => ?_) (fun c1 => ?_)
      · have hf := ite_t c1 hf
        refine lv_iload_n hx hb dX11_sumOf_27 rfl (lv_at hl 2 rfl) ?_
        cases hf
        exact s_iret hx hb hr hI.2.2 hI.1 hlocks dX11_sumOf_28
      · have hf := ite_f c1 hf
        refine lv_iload_n hx hb dX11_sumOf_9 rfl (lv_at hl 3 rfl) ?_
        refine lv_aload_n hx hb dX11_sumOf_10 rfl (lv_at hl 0 rfl) ?_
        refine s_alen (t := 1) (t0 := 0) (by decide) rfl hx hb hK hI he0 dX11_sumOf_11 ?_
        refine lv_icmp_ge (tgt := 27) hx hb dX11_sumOf_12 (by decide) (fun c2 => ?_) (fun c2 => ?_)
        · have hf := ite_t c2 hf
          refine lv_iload_n hx hb dX11_sumOf_27 rfl (lv_at hl 2 rfl) ?_
          cases hf
          exact s_iret hx hb hr hI.2.2 hI.1 hlocks dX11_sumOf_28
        · have hf := ite_f c2 hf
          refine lv_iload_n hx hb dX11_sumOf_15 rfl (lv_at hl 2 rfl) ?_
          refine lv_aload_n hx hb dX11_sumOf_16 rfl (lv_at hl 0 rfl) ?_
          refine lv_iload_n hx hb dX11_sumOf_17 rfl (lv_at hl 3 rfl) ?_
          obtain ⟨h3, hf⟩ := chk_i hf
          refine s_ild hx hb hK hI he0 (inB_i h3) dX11_sumOf_18 ?_
          refine lv_iadd hx hb dX11_sumOf_19 ?_
          obtain ⟨x2_4, ex2_4, hf⟩ := bnd_i hf
          refine s_nmI ex2_4 ?_
          refine lv_istore_n (lv' := [(2, .int x2_4), (0, .ref (ad e0)), (1, .int x1), (3, .int x3)]) hx hb dX11_sumOf_20 rfl hl (by decide) rfl (fun ls hl => ?_)
          obtain ⟨x3_5, ex3_5, hf⟩ := bnd_i hf
          refine lv_iinc (v := x3_5) (lv' := [(3, .int x3_5), (2, .int x2_4), (0, .ref (ad e0)), (1, .int x1)]) hx hb dX11_sumOf_21 hl (k := 3) rfl (by rw [ex3_5]; rfl) (by decide) rfl (fun ls hl => ?_)
          refine lv_goto (tgt := 4) hx hb dX11_sumOf_24 (by decide) ?_
          exact ih x2_4 x3_5 H locs ls (lv_sub hl [2, 3, 1, 0] rfl) hI hf
  rw [f_X11_sumOf] at hf
  refine lv_iconst (v := 0) hx hb dX11_sumOf_0 (by decide) ?_
  refine lv_istore_n (lv' := [(2, .int 0), (0, .ref (ad e0)), (1, .int x1)]) hx hb dX11_sumOf_1 rfl hl (by decide) rfl (fun ls hl => ?_)
  refine lv_iconst (v := 0) hx hb dX11_sumOf_2 (by decide) ?_
  refine lv_istore_n (lv' := [(3, .int 0), (2, .int 0), (0, .ref (ad e0)), (1, .int x1)]) hx hb dX11_sumOf_3 rfl hl (by decide) rfl (fun ls hl => ?_)
  exact B4   fuel 0 0 H locs ls (lv_sub hl [2, 3, 1, 0] rfl) hI hf
noncomputable def f_X1_choose (G : Mem) (O : MemO) (x1 : Int32) (x2 : Int32) (e3 : Nat) : Option (Mem × MemO) := bnd (up2 G 128 10 x1) (fun G1 => bnd (up2 G1 128 11 x2) (fun G2 => bnd (up2 O 128 12 (some e3)) (fun O3 => bnd (up2 G2 128 14 (-1)) (fun G4 => some (G4, O3)))))
theorem kyX1_choose : Ky yX1_choose cX1_choose 4 none 3 := ⟨u3_201, u1_5, by decide, by decide, by decide, by decide +kernel⟩
set_option maxHeartbeats 4000000 in
set_option maxRecDepth 100000 in
theorem c_X1_choose (l : Launch) (D : va_G) (K : List Nat) (sh : Nat → Ent) (ad : Nat → Nat) (cy : Nat → ClassId) (X : va_W) (B : State → Prop) (hcl : Bcl (AS K ad X) B) (S : Nat → Nat) (hE : HC S K sh) (e3 : Nat) (he3 : txE S e3 = true) (G : Mem) (L : MemL) (O : MemO) (x1 : Int32) (x2 : Int32) {Gz : Mem} {Oz : MemO} (hf : f_X1_choose G O x1 x2 e3 = some (Gz, Oz)) : Met l yX1_choose (wsU yX1_choose cX1_choose 4 none) (rmX 1 0 0) (va_Pc [.ref (ad 128), .int x1, .int x2, .ref (ad e3)] (PS D K sh ad cy X B G L O)) (QV (AS K ad X) (PH D K sh ad cy X Gz L Oz)) 0 0 (AS K ad X) := by
  refine s_met (by decide) (Nat.le_of_ble_eq_true rfl) ?_
  intro p e s m args below meth c ls H locs E hK hBs hnm hI hl
  have hl : lv_has ls 4 [(0, .ref (ad 128)), (1, .int x1), (2, .int x2), (3, .ref (ad e3))] := hl
  have E : Cx p s m args meth c RX1 cX1_choose 4 none := E
  obtain ⟨hx, hb, hr, hml, hown, hu, hlocks⟩ := id E
  rw [f_X1_choose] at hf
  refine lv_aload_n hx hb dX1_choose_0 rfl (lv_at hl 0 rfl) ?_
  refine lv_iload_n hx hb dX1_choose_1 rfl (lv_at hl 1 rfl) ?_
  obtain ⟨G1, eG1, hf⟩ := bnd_i hf
  refine s_put (ty := .int) hx hb hu inU1 tyX1_ok nmX1 hown hK hI (mE hE.1 eC_128) rfl 10 (by decide) u1_139 (fun _ h => h) rfl rfl (tyX1_ok 10 (by decide)) rfl rfl eG1 dX1_choose_2 (fun H locs hI => ?_)
  refine lv_aload_n hx hb dX1_choose_5 rfl (lv_at hl 0 rfl) ?_
  refine lv_iload_n hx hb dX1_choose_6 rfl (lv_at hl 2 rfl) ?_
  obtain ⟨G2, eG2, hf⟩ := bnd_i hf
  refine s_put (ty := .int) hx hb hu inU1 tyX1_ok nmX1 hown hK hI (mE hE.1 eC_128) rfl 11 (by decide) u1_140 (fun _ h => h) rfl rfl (tyX1_ok 11 (by decide)) rfl rfl eG2 dX1_choose_7 (fun H locs hI => ?_)
  refine lv_aload_n hx hb dX1_choose_10 rfl (lv_at hl 0 rfl) ?_
  refine lv_aload_n hx hb dX1_choose_11 rfl (lv_at hl 3 rfl) ?_
  obtain ⟨O3, eO3, hf⟩ := bnd_i hf
  refine s_putO (ty := (.object "NobodyBreathes$Text")) (x := some e3) hx hb hu inU1 tyX1_ok nmX1 hown hK hI (mE hE.1 eC_128) rfl 12 (by decide) u1_141 (fun _ h => h) rfl rfl rfl (tyX1_ok 12 (by decide)) rfl rfl eO3 dX1_choose_12 (fun H locs hI => ?_)
  refine lv_aload_n hx hb dX1_choose_15 rfl (lv_at hl 0 rfl) ?_
  refine lv_iconst (v := (-1)) hx hb dX1_choose_16 (by decide) ?_
  obtain ⟨G4, eG4, hf⟩ := bnd_i hf
  refine s_put (ty := .int) hx hb hu inU1 tyX1_ok nmX1 hown hK hI (mE hE.1 eC_128) rfl 14 (by decide) u1_144 (fun _ h => h) rfl rfl (tyX1_ok 14 (by decide)) rfl rfl eG4 dX1_choose_17 (fun H locs hI => ?_)
  cases hf
  exact s_vret hx hb hr hI.2.2 hI.1 hlocks dX1_choose_20
noncomputable def q_X1_readPlan_10 (G : Mem) (e1 : Nat)  (rec : (MemL × Int32) → Option (MemL)) : (MemL × Int32) → Option (MemL) := fun (L, x2) => (if (G e1 2) ≤ (x2 + 1) then some L else chk (inB x2 40) (bnd (G (e1 + 4) x2.toNatClampNeg) (fun x3_5 => chk (inB (x2 + 1) 40) (bnd (G (e1 + 4) (x2 + 1).toNatClampNeg) (fun x4_7 => (if (f_X11_outside x3_5 (G 128 11)) = 0 then (if (f_X11_outside x4_7 48) = 0 then chk (inB x3_5 10) (chk (inB x3_5 10) (bnd (up2 L 133 x3_5.toNatClampNeg ((L 133 x3_5.toNatClampNeg) ||| ((1 : Int64) <<< (x4_7.toInt64 &&& 63)))) (fun L14 => bnd (x2 + 2) (fun x2_15 => rec (L14, x2_15))))) else bnd (x2 + 2) (fun x2_11 => rec (L, x2_11))) else bnd (x2 + 2) (fun x2_9 => rec (L, x2_9))))))))
noncomputable def f_X1_readPlan (G : Mem) (L : MemL) (e1 : Nat) : Option (MemL) := bndO (f_J7_fill_d0a16 L 133 10 0) (fun L1 => iter (q_X1_readPlan_10 G e1) fuel (L1, 0))
theorem kyX1_readPlan : Ky yX1_readPlan cX1_readPlan 5 none 1 := ⟨u3_205, u1_5, by decide, by decide, by decide, by decide +kernel⟩
set_option maxHeartbeats 4000000 in
set_option maxRecDepth 100000 in
theorem c_X1_readPlan (l : Launch) (D : va_G) (K : List Nat) (sh : Nat → Ent) (ad : Nat → Nat) (cy : Nat → ClassId) (X : va_W) (B : State → Prop) (hcl : Bcl (AS K ad X) B) (S : Nat → Nat) (hE : HC S K sh) (e1 : Nat) (he1 : shE e1 = true) (G : Mem) (L : MemL) (O : MemO)  {Lz : MemL} (hf : f_X1_readPlan G L e1 = some Lz) : Met l yX1_readPlan (wsU yX1_readPlan cX1_readPlan 5 none) (rmX 2 0 0) (va_Pc [.ref (ad 128), .ref (ad e1)] (PS D K sh ad cy X B G L O)) (QV (AS K ad X) (PH D K sh ad cy X G Lz O)) 0 0 (AS K ad X) := by
  refine s_met (by decide) (Nat.le_of_ble_eq_true rfl) ?_
  intro p e s m args below meth c ls H locs E hK hBs hnm hI hl
  have hl : lv_has ls 5 [(0, .ref (ad 128)), (1, .ref (ad e1))] := hl
  have E : Cx p s m args meth c RX1 cX1_readPlan 5 none := E
  obtain ⟨hx, hb, hr, hml, hown, hu, hlocks⟩ := id E
  have B10 : ∀   (n : Nat) (L : MemL) (x2 : Int32) (H : Heap) (locs : List Loc) (ls : Array Slot), lv_has ls 5 [(0, .ref (ad 128)), (1, .ref (ad e1)), (2, .int x2)] → IS D K sh ad cy X (AS K ad X) s.heap H locs G L O → iter (q_X1_readPlan_10 G e1) n (L, x2) = some Lz → W p l e (rmX 2 0 0) s m args below meth c H locs 0 0 (MQ below (QV (AS K ad X) (PH D K sh ad cy X G Lz O)) args s 0 0 (AS K ad X)) (F0 m 10 ls []) := by
    intro n
    induction n with
    | zero => intro L x2 H locs ls hl hI hf; exact iter_0 hf
    | succ n ih =>
      intro L x2 H locs ls hl hI hf
      have hf : q_X1_readPlan_10 G e1 (iter (q_X1_readPlan_10 G e1) n) (L, x2) = some Lz := hf
      rw [q_X1_readPlan_10] at hf
      refine lv_iload_n hx hb dX1_readPlan_10 rfl (lv_at hl 2 rfl) ?_
      refine lv_iconst (v := 1) hx hb dX1_readPlan_11 (by decide) ?_
      refine lv_iadd hx hb dX1_readPlan_12 ?_
      refine lv_aload_n hx hb dX1_readPlan_13 rfl (lv_at hl 1 rfl) ?_
      refine s_get (v := .int (G e1 2)) hx hb hu inU6 hown hK hI (shS hE.1 he1) rfl 2 (by decide) u1_191 (fun _ h => h) rfl rfl dX1_readPlan_14 ?_
      refine lv_icmp_ge (tgt := 77) hx hb dX1_readPlan_17 (by decide) (fun c3 => ?_) (fun c3 => ?_)
      · have hf := ite_t c3 hf
        cases hf
        exact s_vret hx hb hr hI.2.2 hI.1 hlocks dX1_readPlan_77
      · have hf := ite_f c3 hf
        refine lv_aload_n hx hb dX1_readPlan_20 rfl (lv_at hl 1 rfl) ?_
        refine s_get (v := .ref (ad (e1 + 4))) hx hb hu inU6 hown hK hI (shS hE.1 he1) rfl 0 (by decide) u1_186 (fun _ h => h) rfl rfl dX1_readPlan_21 ?_
        refine lv_iload_n hx hb dX1_readPlan_24 rfl (lv_at hl 2 rfl) ?_
        obtain ⟨h4, hf⟩ := chk_i hf
        refine s_ild hx hb hK hI (shI hE.1 he1) (inB_i h4) dX1_readPlan_25 ?_
        obtain ⟨x3_5, ex3_5, hf⟩ := bnd_i hf
        refine s_nmI ex3_5 ?_
        refine lv_istore_n (lv' := [(3, .int x3_5), (0, .ref (ad 128)), (1, .ref (ad e1)), (2, .int x2)]) hx hb dX1_readPlan_26 rfl hl (by decide) rfl (fun ls hl => ?_)
        refine lv_aload_n hx hb dX1_readPlan_27 rfl (lv_at hl 2 rfl) ?_
        refine s_get (v := .ref (ad (e1 + 4))) hx hb hu inU6 hown hK hI (shS hE.1 he1) rfl 0 (by decide) u1_186 (fun _ h => h) rfl rfl dX1_readPlan_28 ?_
        refine lv_iload_n hx hb dX1_readPlan_31 rfl (lv_at hl 3 rfl) ?_
        refine lv_iconst (v := 1) hx hb dX1_readPlan_32 (by decide) ?_
        refine lv_iadd hx hb dX1_readPlan_33 ?_
        obtain ⟨h6, hf⟩ := chk_i hf
        refine s_ild hx hb hK hI (shI hE.1 he1) (inB_i h6) dX1_readPlan_34 ?_
        obtain ⟨x4_7, ex4_7, hf⟩ := bnd_i hf
        refine s_nmI ex4_7 ?_
        refine lv_istore (lv' := [(4, .int x4_7), (3, .int x3_5), (0, .ref (ad 128)), (1, .ref (ad e1)), (2, .int x2)]) hx hb dX1_readPlan_35 hl (by decide) rfl (fun ls hl => ?_)
        refine lv_iload_n hx hb dX1_readPlan_37 rfl (lv_at hl 1 rfl) ?_
        refine lv_aload_n hx hb dX1_readPlan_38 rfl (lv_at hl 2 rfl) ?_
        refine s_get (v := .int (G 128 11)) hx hb hu inU1 hown hK hI (mE hE.1 eC_128) rfl 11 (by decide) u1_140 (fun _ h => h) rfl rfl dX1_readPlan_39 ?_
        refine s_cSNP (host := RX11) (np := 2) (rest := []) E hK (c_X11_outside l x3_5 (G 128 11) rfl) kyX11_outside (by decide) u2_220 (by decide) rfl hl.1 rfl (Nat.le_of_ble_eq_true rfl) ⟨Nat.zero_le _, Nat.zero_le _⟩ dX1_readPlan_42 ?_
        refine lv_if_ne (tgt := 71) hx hb dX1_readPlan_45 (by decide) (fun c8 => ?_) (fun c8 => ?_)
        · have hf := ite_f c8 hf
          obtain ⟨x2_9, ex2_9, hf⟩ := bnd_i hf
          refine lv_iinc (v := x2_9) (lv' := [(2, .int x2_9), (4, .int x4_7), (3, .int x3_5), (0, .ref (ad 128)), (1, .ref (ad e1))]) hx hb dX1_readPlan_71 hl (k := 4) rfl (by rw [ex2_9]; rfl) (by decide) rfl (fun ls hl => ?_)
          refine lv_goto (tgt := 10) hx hb dX1_readPlan_74 (by decide) ?_
          exact ih L x2_9 H locs ls (lv_sub hl [3, 4, 0] rfl) hI hf
        · have hf := ite_t c8 hf
          refine lv_iload hx hb dX1_readPlan_48 (lv_at hl 0 rfl) ?_
          refine lv_bipush (v := 48) hx hb dX1_readPlan_50 (by decide) ?_
          refine s_cSNP (host := RX11) (np := 2) (rest := []) E hK (c_X11_outside l x4_7 48 rfl) kyX11_outside (by decide) u2_220 (by decide) rfl hl.1 rfl (Nat.le_of_ble_eq_true rfl) ⟨Nat.zero_le _, Nat.zero_le _⟩ dX1_readPlan_52 ?_
          refine lv_if_ne (tgt := 71) hx hb dX1_readPlan_55 (by decide) (fun c10 => ?_) (fun c10 => ?_)
          · have hf := ite_f c10 hf
            obtain ⟨x2_11, ex2_11, hf⟩ := bnd_i hf
            refine lv_iinc (v := x2_11) (lv' := [(2, .int x2_11), (4, .int x4_7), (3, .int x3_5), (0, .ref (ad 128)), (1, .ref (ad e1))]) hx hb dX1_readPlan_71 hl (k := 4) rfl (by rw [ex2_11]; rfl) (by decide) rfl (fun ls hl => ?_)
            refine lv_goto (tgt := 10) hx hb dX1_readPlan_74 (by decide) ?_
            exact ih L x2_11 H locs ls (lv_sub hl [3, 4, 0] rfl) hI hf
          · have hf := ite_t c10 hf
            refine lv_aload_n hx hb dX1_readPlan_58 rfl (lv_at hl 2 rfl) ?_
            refine s_get (v := .ref (ad 133)) hx hb hu inU1 hown hK hI (mE hE.1 eC_128) rfl 6 (by decide) u1_134 (fun _ h => h) rfl rfl dX1_readPlan_59 ?_
            refine lv_iload_n hx hb dX1_readPlan_62 rfl (lv_at hl 1 rfl) ?_
            refine lv_dup2_11 hx hb dX1_readPlan_63 rfl rfl ?_
            obtain ⟨h12, hf⟩ := chk_i hf
            refine s_lld hx hb hK hI (mE hE.1 eC_133) (inB_i h12) dX1_readPlan_64 ?_
            refine lv_lconst (v := 1) hx hb dX1_readPlan_65 (by decide) ?_
            refine lv_iload hx hb dX1_readPlan_66 (lv_at hl 0 rfl) ?_
            refine lv_lshl (v := ((1 : Int64) <<< (x4_7.toInt64 &&& 63))) hx hb dX1_readPlan_68 rfl ?_
            refine lv_lor hx hb dX1_readPlan_69 ?_
            obtain ⟨h13, hf⟩ := chk_i hf
            obtain ⟨L14, eL14, hf⟩ := bnd_i hf
            refine s_lst hx hb hK hI (mE hE.1 eC_133) (inB_i h13) eL14 dX1_readPlan_70 (fun H locs hI => ?_)
            obtain ⟨x2_15, ex2_15, hf⟩ := bnd_i hf
            refine lv_iinc (v := x2_15) (lv' := [(2, .int x2_15), (4, .int x4_7), (3, .int x3_5), (0, .ref (ad 128)), (1, .ref (ad e1))]) hx hb dX1_readPlan_71 hl (k := 4) rfl (by rw [ex2_15]; rfl) (by decide) rfl (fun ls hl => ?_)
            refine lv_goto (tgt := 10) hx hb dX1_readPlan_74 (by decide) ?_
            exact ih L14 x2_15 H locs ls (lv_sub hl [3, 4, 0] rfl) hI hf
  rw [f_X1_readPlan] at hf
  refine lv_aload_n hx hb dX1_readPlan_0 rfl (lv_at hl 0 rfl) ?_
  refine s_get (v := .ref (ad 133)) hx hb hu inU1 hown hK hI (mE hE.1 eC_128) rfl 6 (by decide) u1_134 (fun _ h => h) rfl rfl dX1_readPlan_1 ?_
  refine lv_lconst (v := 0) hx hb dX1_readPlan_4 (by decide) ?_
  obtain ⟨L1, h2, hf⟩ := bndO_i hf
  refine s_afV hI (s_runS (rest := []) (np := 2) E hK hI (s_B hcl hBs hI) hcl.2 (c_J7_fill_d0a16 l D K sh ad cy X B hcl  133 10 (mE hE.1 eC_133) G L O 0 h2) kyJ7_fill_d0a16 u3_206 u3_207 (by decide) rfl hl.1 rfl (Nat.le_of_ble_eq_true rfl) ⟨Nat.zero_le _, Nat.zero_le _⟩ dX1_readPlan_5) (fun H locs hI => ?_)
  refine lv_iconst (v := 0) hx hb dX1_readPlan_8 (by decide) ?_
  refine lv_istore_n (lv' := [(2, .int 0), (0, .ref (ad 128)), (1, .ref (ad e1))]) hx hb dX1_readPlan_9 rfl hl (by decide) rfl (fun ls hl => ?_)
  exact B10   fuel L1 0 H locs ls (lv_sub hl [1, 2, 0] rfl) hI hf
noncomputable def f_X1_lose (G : Mem) (x1 : Int32) (x2 : Int32) : Option (Mem) := bnd (up2 G 128 14 x1) (fun G1 => bnd (up2 G1 128 15 x2) (fun G2 => some G2))
theorem kyX1_lose : Ky yX1_lose cX1_lose 3 none 2 := ⟨u4_96, u1_5, by decide, by decide, by decide, by decide +kernel⟩
set_option maxHeartbeats 4000000 in
set_option maxRecDepth 100000 in
theorem c_X1_lose (l : Launch) (D : va_G) (K : List Nat) (sh : Nat → Ent) (ad : Nat → Nat) (cy : Nat → ClassId) (X : va_W) (B : State → Prop) (hcl : Bcl (AS K ad X) B) (S : Nat → Nat) (hE : HC S K sh) (G : Mem) (L : MemL) (O : MemO) (x1 : Int32) (x2 : Int32) {Gz : Mem} (hf : f_X1_lose G x1 x2 = some Gz) : Met l yX1_lose (wsU yX1_lose cX1_lose 3 none) (rmX 1 0 0) (va_Pc [.ref (ad 128), .int x1, .int x2] (PS D K sh ad cy X B G L O)) (QV (AS K ad X) (PH D K sh ad cy X Gz L O)) 0 0 (AS K ad X) := by
  refine s_met (by decide) (Nat.le_of_ble_eq_true rfl) ?_
  intro p e s m args below meth c ls H locs E hK hBs hnm hI hl
  have hl : lv_has ls 3 [(0, .ref (ad 128)), (1, .int x1), (2, .int x2)] := hl
  have E : Cx p s m args meth c RX1 cX1_lose 3 none := E
  obtain ⟨hx, hb, hr, hml, hown, hu, hlocks⟩ := id E
  rw [f_X1_lose] at hf
  refine lv_aload_n hx hb dX1_lose_0 rfl (lv_at hl 0 rfl) ?_
  refine lv_iload_n hx hb dX1_lose_1 rfl (lv_at hl 1 rfl) ?_
  obtain ⟨G1, eG1, hf⟩ := bnd_i hf
  refine s_put (ty := .int) hx hb hu inU1 tyX1_ok nmX1 hown hK hI (mE hE.1 eC_128) rfl 14 (by decide) u1_144 (fun _ h => h) rfl rfl (tyX1_ok 14 (by decide)) rfl rfl eG1 dX1_lose_2 (fun H locs hI => ?_)
  refine lv_aload_n hx hb dX1_lose_5 rfl (lv_at hl 0 rfl) ?_
  refine lv_iload_n hx hb dX1_lose_6 rfl (lv_at hl 2 rfl) ?_
  obtain ⟨G2, eG2, hf⟩ := bnd_i hf
  refine s_put (ty := .int) hx hb hu inU1 tyX1_ok nmX1 hown hK hI (mE hE.1 eC_128) rfl 15 (by decide) u1_145 (fun _ h => h) rfl rfl (tyX1_ok 15 (by decide)) rfl rfl eG2 dX1_lose_7 (fun H locs hI => ?_)
  cases hf
  exact s_vret hx hb hr hI.2.2 hI.1 hlocks dX1_lose_10
noncomputable def q_X1_start_42   (rec : (Mem × Int32) → Option (Mem)) : (Mem × Int32) → Option (Mem) := fun (G, x1) => (if (G 128 11) ≤ x1 then bnd (up2 G 128 13 ((1 <<< ((G 128 11) &&& 31)) - 1)) (fun G12 => some G12) else chk (inB x1 10) (chk (inB (G 106 x1.toNatClampNeg) 4) (chk (inB (G 106 x1.toNatClampNeg) 4) (bnd (up2 G 134 (G 106 x1.toNatClampNeg).toNatClampNeg ((G 134 (G 106 x1.toNatClampNeg).toNatClampNeg) ||| (1 <<< (x1 &&& 31)))) (fun G16 => bnd (x1 + 1) (fun x1_17 => rec (G16, x1_17)))))))
noncomputable def f_X1_start (G : Mem)  : Option (Mem) := bndO (f_J7_fill_53178 G 130 10 0) (fun G1 => bndO (f_J7_fill_53178 G1 131 10 0) (fun G3 => bndO (f_J7_fill_53178 G3 132 10 0) (fun G5 => bndO (f_J7_fill_53178 G5 134 4 0) (fun G7 => bndO (f_J7_fill_53178 G7 135 4 0) (fun G9 => iter (q_X1_start_42) fuel (G9, 0))))))
theorem kyX1_start : Ky yX1_start cX1_start 2 none 0 := ⟨u3_213, u1_5, by decide, by decide, by decide, by decide +kernel⟩
set_option maxHeartbeats 4000000 in
set_option maxRecDepth 100000 in
theorem c_X1_start (l : Launch) (D : va_G) (K : List Nat) (sh : Nat → Ent) (ad : Nat → Nat) (cy : Nat → ClassId) (X : va_W) (B : State → Prop) (hcl : Bcl (AS K ad X) B) (S : Nat → Nat) (hE : HC S K sh) (G : Mem) (L : MemL) (O : MemO)  {Gz : Mem} (hf : f_X1_start G = some Gz) : Met l yX1_start (wsU yX1_start cX1_start 2 none) (rmX 2 0 0) (va_Pc [.ref (ad 128)] (PS D K sh ad cy X B G L O)) (QV (AS K ad X) (PH D K sh ad cy X Gz L O)) 0 0 (AS K ad X) := by
  refine s_met (by decide) (Nat.le_of_ble_eq_true rfl) ?_
  intro p e s m args below meth c ls H locs E hK hBs hnm hI hl
  have hl : lv_has ls 2 [(0, .ref (ad 128))] := hl
  have E : Cx p s m args meth c RX1 cX1_start 2 none := E
  obtain ⟨hx, hb, hr, hml, hown, hu, hlocks⟩ := id E
  have B42 : ∀   (n : Nat) (G : Mem) (x1 : Int32) (H : Heap) (locs : List Loc) (ls : Array Slot), lv_has ls 2 [(0, .ref (ad 128)), (1, .int x1)] → IS D K sh ad cy X (AS K ad X) s.heap H locs G L O → iter (q_X1_start_42) n (G, x1) = some Gz → W p l e (rmX 2 0 0) s m args below meth c H locs 0 0 (MQ below (QV (AS K ad X) (PH D K sh ad cy X Gz L O)) args s 0 0 (AS K ad X)) (F0 m 42 ls []) := by
    intro n
    induction n with
    | zero => intro G x1 H locs ls hl hI hf; exact iter_0 hf
    | succ n ih =>
      intro G x1 H locs ls hl hI hf
      have hf : q_X1_start_42 (iter (q_X1_start_42) n) (G, x1) = some Gz := hf
      rw [q_X1_start_42] at hf
      refine lv_iload_n hx hb dX1_start_42 rfl (lv_at hl 1 rfl) ?_
      refine lv_aload_n hx hb dX1_start_43 rfl (lv_at hl 0 rfl) ?_
      refine s_get (v := .int (G 128 11)) hx hb hu inU1 hown hK hI (mE hE.1 eC_128) rfl 11 (by decide) u1_140 (fun _ h => h) rfl rfl dX1_start_44 ?_
      refine lv_icmp_ge (tgt := 76) hx hb dX1_start_47 (by decide) (fun c11 => ?_) (fun c11 => ?_)
      · have hf := ite_t c11 hf
        refine lv_aload_n hx hb dX1_start_76 rfl (lv_at hl 0 rfl) ?_
        refine lv_iconst (v := 1) hx hb dX1_start_77 (by decide) ?_
        refine lv_aload_n hx hb dX1_start_78 rfl (lv_at hl 0 rfl) ?_
        refine s_get (v := .int (G 128 11)) hx hb hu inU1 hown hK hI (mE hE.1 eC_128) rfl 11 (by decide) u1_140 (fun _ h => h) rfl rfl dX1_start_79 ?_
        refine lv_ishl hx hb dX1_start_82 ?_
        refine lv_iconst (v := 1) hx hb dX1_start_83 (by decide) ?_
        refine lv_isub hx hb dX1_start_84 ?_
        obtain ⟨G12, eG12, hf⟩ := bnd_i hf
        refine s_put (ty := .int) hx hb hu inU1 tyX1_ok nmX1 hown hK hI (mE hE.1 eC_128) rfl 13 (by decide) u1_142 (fun _ h => h) rfl rfl (tyX1_ok 13 (by decide)) rfl rfl eG12 dX1_start_85 (fun H locs hI => ?_)
        cases hf
        exact s_vret hx hb hr hI.2.2 hI.1 hlocks dX1_start_88
      · have hf := ite_f c11 hf
        refine lv_aload_n hx hb dX1_start_50 rfl (lv_at hl 0 rfl) ?_
        refine s_get (v := .ref (ad 134)) hx hb hu inU1 hown hK hI (mE hE.1 eC_128) rfl 7 (by decide) u1_136 (fun _ h => h) rfl rfl dX1_start_51 ?_
        refine lv_aload_n hx hb dX1_start_54 rfl (lv_at hl 0 rfl) ?_
        refine s_get (v := .ref (ad 101)) hx hb hu inU1 hown hK hI (mE hE.1 eC_128) rfl 0 (by decide) u1_127 (fun _ h => h) rfl rfl dX1_start_55 ?_
        refine s_get (v := .ref (ad 106)) hx hb hu inU4 hown hK hI (mE hE.1 eC_101) rfl 4 (by decide) u1_54 (fun _ h => h) rfl rfl dX1_start_58 ?_
        refine lv_iload_n hx hb dX1_start_61 rfl (lv_at hl 1 rfl) ?_
        obtain ⟨h13, hf⟩ := chk_i hf
        refine s_ild hx hb hK hI (mE hE.1 eC_106) (inB_i h13) dX1_start_62 ?_
        refine lv_dup2_11 hx hb dX1_start_63 rfl rfl ?_
        obtain ⟨h14, hf⟩ := chk_i hf
        refine s_ild hx hb hK hI (mE hE.1 eC_134) (inB_i h14) dX1_start_64 ?_
        refine lv_iconst (v := 1) hx hb dX1_start_65 (by decide) ?_
        refine lv_iload_n hx hb dX1_start_66 rfl (lv_at hl 1 rfl) ?_
        refine lv_ishl hx hb dX1_start_67 ?_
        refine lv_ior hx hb dX1_start_68 ?_
        obtain ⟨h15, hf⟩ := chk_i hf
        obtain ⟨G16, eG16, hf⟩ := bnd_i hf
        refine s_ist hx hb hK hI (mE hE.1 eC_134) (inB_i h15) eG16 dX1_start_69 (fun H locs hI => ?_)
        obtain ⟨x1_17, ex1_17, hf⟩ := bnd_i hf
        refine lv_iinc (v := x1_17) (lv' := [(1, .int x1_17), (0, .ref (ad 128))]) hx hb dX1_start_70 hl (k := 1) rfl (by rw [ex1_17]; rfl) (by decide) rfl (fun ls hl => ?_)
        refine lv_goto (tgt := 42) hx hb dX1_start_73 (by decide) ?_
        exact ih G16 x1_17 H locs ls (lv_sub hl [1, 0] rfl) hI hf
  rw [f_X1_start] at hf
  refine lv_aload_n hx hb dX1_start_0 rfl (lv_at hl 0 rfl) ?_
  refine s_get (v := .ref (ad 130)) hx hb hu inU1 hown hK hI (mE hE.1 eC_128) rfl 3 (by decide) u1_130 (fun _ h => h) rfl rfl dX1_start_1 ?_
  refine lv_iconst (v := 0) hx hb dX1_start_4 (by decide) ?_
  obtain ⟨G1, h2, hf⟩ := bndO_i hf
  refine s_afV hI (s_runS (rest := []) (np := 2) E hK hI (s_B hcl hBs hI) hcl.2 (c_J7_fill_53178 l D K sh ad cy X B hcl  130 10 (mE hE.1 eC_130) G L O 0 h2) kyJ7_fill_53178 u3_214 u1_38 (by decide) rfl hl.1 rfl (Nat.le_of_ble_eq_true rfl) ⟨Nat.zero_le _, Nat.zero_le _⟩ dX1_start_5) (fun H locs hI => ?_)
  refine lv_aload_n hx hb dX1_start_8 rfl (lv_at hl 0 rfl) ?_
  refine s_get (v := .ref (ad 131)) hx hb hu inU1 hown hK hI (mE hE.1 eC_128) rfl 4 (by decide) u1_131 (fun _ h => h) rfl rfl dX1_start_9 ?_
  refine lv_iconst (v := 0) hx hb dX1_start_12 (by decide) ?_
  obtain ⟨G3, h4, hf⟩ := bndO_i hf
  refine s_afV hI (s_runS (rest := []) (np := 2) E hK hI (s_B hcl hBs hI) hcl.2 (c_J7_fill_53178 l D K sh ad cy X B hcl  131 10 (mE hE.1 eC_131) G1 L O 0 h4) kyJ7_fill_53178 u3_214 u1_38 (by decide) rfl hl.1 rfl (Nat.le_of_ble_eq_true rfl) ⟨Nat.zero_le _, Nat.zero_le _⟩ dX1_start_13) (fun H locs hI => ?_)
  refine lv_aload_n hx hb dX1_start_16 rfl (lv_at hl 0 rfl) ?_
  refine s_get (v := .ref (ad 132)) hx hb hu inU1 hown hK hI (mE hE.1 eC_128) rfl 5 (by decide) u1_132 (fun _ h => h) rfl rfl dX1_start_17 ?_
  refine lv_iconst (v := 0) hx hb dX1_start_20 (by decide) ?_
  obtain ⟨G5, h6, hf⟩ := bndO_i hf
  refine s_afV hI (s_runS (rest := []) (np := 2) E hK hI (s_B hcl hBs hI) hcl.2 (c_J7_fill_53178 l D K sh ad cy X B hcl  132 10 (mE hE.1 eC_132) G3 L O 0 h6) kyJ7_fill_53178 u3_214 u1_38 (by decide) rfl hl.1 rfl (Nat.le_of_ble_eq_true rfl) ⟨Nat.zero_le _, Nat.zero_le _⟩ dX1_start_21) (fun H locs hI => ?_)
  refine lv_aload_n hx hb dX1_start_24 rfl (lv_at hl 0 rfl) ?_
  refine s_get (v := .ref (ad 134)) hx hb hu inU1 hown hK hI (mE hE.1 eC_128) rfl 7 (by decide) u1_136 (fun _ h => h) rfl rfl dX1_start_25 ?_
  refine lv_iconst (v := 0) hx hb dX1_start_28 (by decide) ?_
  obtain ⟨G7, h8, hf⟩ := bndO_i hf
  refine s_afV hI (s_runS (rest := []) (np := 2) E hK hI (s_B hcl hBs hI) hcl.2 (c_J7_fill_53178 l D K sh ad cy X B hcl  134 4 (mE hE.1 eC_134) G5 L O 0 h8) kyJ7_fill_53178 u3_214 u1_38 (by decide) rfl hl.1 rfl (Nat.le_of_ble_eq_true rfl) ⟨Nat.zero_le _, Nat.zero_le _⟩ dX1_start_29) (fun H locs hI => ?_)
  refine lv_aload_n hx hb dX1_start_32 rfl (lv_at hl 0 rfl) ?_
  refine s_get (v := .ref (ad 135)) hx hb hu inU1 hown hK hI (mE hE.1 eC_128) rfl 8 (by decide) u1_137 (fun _ h => h) rfl rfl dX1_start_33 ?_
  refine lv_iconst (v := 0) hx hb dX1_start_36 (by decide) ?_
  obtain ⟨G9, h10, hf⟩ := bndO_i hf
  refine s_afV hI (s_runS (rest := []) (np := 2) E hK hI (s_B hcl hBs hI) hcl.2 (c_J7_fill_53178 l D K sh ad cy X B hcl  135 4 (mE hE.1 eC_135) G7 L O 0 h10) kyJ7_fill_53178 u3_214 u1_38 (by decide) rfl hl.1 rfl (Nat.le_of_ble_eq_true rfl) ⟨Nat.zero_le _, Nat.zero_le _⟩ dX1_start_37) (fun H locs hI => ?_)
  refine lv_iconst (v := 0) hx hb dX1_start_40 (by decide) ?_
  refine lv_istore_n (lv' := [(1, .int 0), (0, .ref (ad 128))]) hx hb dX1_start_41 rfl hl (by decide) rfl (fun ls hl => ?_)
  exact B42   fuel G9 0 H locs ls (lv_sub hl [1, 0] rfl) hI hf
noncomputable def f_X1_isSilent (G : Mem) (x1 : Int32) : Int32 := (if (f_X11_outside x1 (G 128 11)) = 0 then (if (((G 128 13) >>> (x1 &&& 31)) - ((G 128 13) >>> (x1 &&& 31)) / 2 * 2) = 0 then 1 else 0) else 0)
theorem b_X1_isSilent (G : Mem) (x1 : Int32) : isB (f_X1_isSilent G x1) = true := by
  unfold f_X1_isSilent
  first | (repeat' split) <;> rfl | (repeat' split) <;> first | rfl | exact (b_X11_outside x1 (G 128 11))
theorem kyX1_isSilent : Ky yX1_isSilent cX1_isSilent 2 (some FieldType.boolean) 1 := ⟨u3_239, u1_5, by decide, by decide, by decide, by decide +kernel⟩
set_option maxHeartbeats 4000000 in
set_option maxRecDepth 100000 in
theorem c_X1_isSilent (l : Launch) (D : va_G) (K : List Nat) (sh : Nat → Ent) (ad : Nat → Nat) (cy : Nat → ClassId) (X : va_W) (B : State → Prop) (hcl : Bcl (AS K ad X) B) (S : Nat → Nat) (hE : HC S K sh) (G : Mem) (L : MemL) (O : MemO) (x1 : Int32)  {vz : Int32} (hf : f_X1_isSilent G x1 = vz) : Met l yX1_isSilent (wsU yX1_isSilent cX1_isSilent 2 (some FieldType.boolean)) (rmX 2 0 0) (va_Pc [.ref (ad 128), .int x1] (PS D K sh ad cy X B G L O)) (QI (AS K ad X) (PH D K sh ad cy X G L O) vz) 0 0 (AS K ad X) := by
  refine s_met (by decide) (Nat.le_of_ble_eq_true rfl) ?_
  intro p e s m args below meth c ls H locs E hK hBs hnm hI hl
  have hl : lv_has ls 2 [(0, .ref (ad 128)), (1, .int x1)] := hl
  have E : Cx p s m args meth c RX1 cX1_isSilent 2 (some FieldType.boolean) := E
  obtain ⟨hx, hb, hr, hml, hown, hu, hlocks⟩ := id E
  rw [f_X1_isSilent] at hf
  refine lv_iload_n hx hb dX1_isSilent_0 rfl (lv_at hl 1 rfl) ?_
  refine lv_aload_n hx hb dX1_isSilent_1 rfl (lv_at hl 0 rfl) ?_
  refine s_get (v := .int (G 128 11)) hx hb hu inU1 hown hK hI (mE hE.1 eC_128) rfl 11 (by decide) u1_140 (fun _ h => h) rfl rfl dX1_isSilent_2 ?_
  refine s_cSNP (host := RX11) (np := 2) (rest := []) E hK (c_X11_outside l x1 (G 128 11) rfl) kyX11_outside (by decide) u2_220 (by decide) rfl hl.1 rfl (Nat.le_of_ble_eq_true rfl) ⟨Nat.zero_le _, Nat.zero_le _⟩ dX1_isSilent_5 ?_
  refine lv_if_ne (tgt := 26) hx hb dX1_isSilent_8 (by decide) (fun c1 => ?_) (fun c1 => ?_)
  · have hf := ite_f c1 hf
    refine lv_iconst (v := 0) hx hb dX1_isSilent_26 (by decide) ?_
    subst hf
    exact s_zret rfl hx hb hr hI.2.2 hI.1 hlocks dX1_isSilent_27
  · have hf := ite_t c1 hf
    refine lv_aload_n hx hb dX1_isSilent_11 rfl (lv_at hl 0 rfl) ?_
    refine s_get (v := .int (G 128 13)) hx hb hu inU1 hown hK hI (mE hE.1 eC_128) rfl 13 (by decide) u1_142 (fun _ h => h) rfl rfl dX1_isSilent_12 ?_
    refine lv_iload_n hx hb dX1_isSilent_15 rfl (lv_at hl 1 rfl) ?_
    refine lv_ishr hx hb dX1_isSilent_16 ?_
    refine lv_iconst (v := 2) hx hb dX1_isSilent_17 (by decide) ?_
    refine lv_irem hx hb dX1_isSilent_18 (by decide) ?_
    refine lv_if_ne (tgt := 26) hx hb dX1_isSilent_19 (by decide) (fun c2 => ?_) (fun c2 => ?_)
    · have hf := ite_f c2 hf
      refine lv_iconst (v := 0) hx hb dX1_isSilent_26 (by decide) ?_
      subst hf
      exact s_zret rfl hx hb hr hI.2.2 hI.1 hlocks dX1_isSilent_27
    · have hf := ite_t c2 hf
      refine lv_iconst (v := 1) hx hb dX1_isSilent_22 (by decide) ?_
      refine lv_goto (tgt := 27) hx hb dX1_isSilent_23 (by decide) ?_
      subst hf
      exact s_zret rfl hx hb hr hI.2.2 hI.1 hlocks dX1_isSilent_27
noncomputable def f_X1_listen (G : Mem) (x1 : Int32) (x2 : Int32) : Option (Mem) := bndO (f_J7_fill_53178 G 129 6 0) (fun G1 => bnd (up2 G1 129 (1 : Int32).toNatClampNeg x2) (fun G3 => bnd (up2 G3 129 (2 : Int32).toNatClampNeg x1) (fun G4 => some G4)))
theorem kyX1_listen : Ky yX1_listen cX1_listen 3 none 2 := ⟨u4_4, u1_5, by decide, by decide, by decide, by decide +kernel⟩
set_option maxHeartbeats 4000000 in
set_option maxRecDepth 100000 in
theorem c_X1_listen (l : Launch) (D : va_G) (K : List Nat) (sh : Nat → Ent) (ad : Nat → Nat) (cy : Nat → ClassId) (X : va_W) (B : State → Prop) (hcl : Bcl (AS K ad X) B) (S : Nat → Nat) (hE : HC S K sh) (G : Mem) (L : MemL) (O : MemO) (x1 : Int32) (x2 : Int32) {Gz : Mem} (hf : f_X1_listen G x1 x2 = some Gz) : Met l yX1_listen (wsU yX1_listen cX1_listen 3 none) (rmX 2 0 0) (va_Pc [.ref (ad 128), .int x1, .int x2] (PS D K sh ad cy X B G L O)) (QV (AS K ad X) (PH D K sh ad cy X Gz L O)) 0 0 (AS K ad X) := by
  refine s_met (by decide) (Nat.le_of_ble_eq_true rfl) ?_
  intro p e s m args below meth c ls H locs E hK hBs hnm hI hl
  have hl : lv_has ls 3 [(0, .ref (ad 128)), (1, .int x1), (2, .int x2)] := hl
  have E : Cx p s m args meth c RX1 cX1_listen 3 none := E
  obtain ⟨hx, hb, hr, hml, hown, hu, hlocks⟩ := id E
  rw [f_X1_listen] at hf
  refine lv_aload_n hx hb dX1_listen_0 rfl (lv_at hl 0 rfl) ?_
  refine s_get (v := .ref (ad 129)) hx hb hu inU1 hown hK hI (mE hE.1 eC_128) rfl 2 (by decide) u1_129 (fun _ h => h) rfl rfl dX1_listen_1 ?_
  refine lv_iconst (v := 0) hx hb dX1_listen_4 (by decide) ?_
  obtain ⟨G1, h2, hf⟩ := bndO_i hf
  refine s_afV hI (s_runS (rest := []) (np := 2) E hK hI (s_B hcl hBs hI) hcl.2 (c_J7_fill_53178 l D K sh ad cy X B hcl  129 6 (mE hE.1 eC_129) G L O 0 h2) kyJ7_fill_53178 u3_214 u1_38 (by decide) rfl hl.1 rfl (Nat.le_of_ble_eq_true rfl) ⟨Nat.zero_le _, Nat.zero_le _⟩ dX1_listen_5) (fun H locs hI => ?_)
  refine lv_aload_n hx hb dX1_listen_8 rfl (lv_at hl 0 rfl) ?_
  refine s_get (v := .ref (ad 129)) hx hb hu inU1 hown hK hI (mE hE.1 eC_128) rfl 2 (by decide) u1_129 (fun _ h => h) rfl rfl dX1_listen_9 ?_
  refine lv_iconst (v := 1) hx hb dX1_listen_12 (by decide) ?_
  refine lv_iload_n hx hb dX1_listen_13 rfl (lv_at hl 2 rfl) ?_
  obtain ⟨G3, eG3, hf⟩ := bnd_i hf
  refine s_ist hx hb hK hI (mE hE.1 eC_129) (inB_i (by decide)) eG3 dX1_listen_14 (fun H locs hI => ?_)
  refine lv_aload_n hx hb dX1_listen_15 rfl (lv_at hl 0 rfl) ?_
  refine s_get (v := .ref (ad 129)) hx hb hu inU1 hown hK hI (mE hE.1 eC_128) rfl 2 (by decide) u1_129 (fun _ h => h) rfl rfl dX1_listen_16 ?_
  refine lv_iconst (v := 2) hx hb dX1_listen_19 (by decide) ?_
  refine lv_iload_n hx hb dX1_listen_20 rfl (lv_at hl 1 rfl) ?_
  obtain ⟨G4, eG4, hf⟩ := bnd_i hf
  refine s_ist hx hb hK hI (mE hE.1 eC_129) (inB_i (by decide)) eG4 dX1_listen_21 (fun H locs hI => ?_)
  cases hf
  exact s_vret hx hb hr hI.2.2 hI.1 hlocks dX1_listen_22
noncomputable def f_X1_howMany (G : Mem) (x1 : Int32) : Option (Int32) := chk (inB x1 4) (some (f_J6_bitCount_0f7a4 ((G 128 13) &&& (G 134 x1.toNatClampNeg))))
theorem kyX1_howMany : Ky yX1_howMany cX1_howMany 2 (some FieldType.int) 1 := ⟨u4_18, u1_5, by decide, by decide, by decide, by decide +kernel⟩
set_option maxHeartbeats 4000000 in
set_option maxRecDepth 100000 in
theorem c_X1_howMany (l : Launch) (D : va_G) (K : List Nat) (sh : Nat → Ent) (ad : Nat → Nat) (cy : Nat → ClassId) (X : va_W) (B : State → Prop) (hcl : Bcl (AS K ad X) B) (S : Nat → Nat) (hE : HC S K sh) (G : Mem) (L : MemL) (O : MemO) (x1 : Int32)  {vz : Int32} (hf : f_X1_howMany G x1 = some vz) : Met l yX1_howMany (wsU yX1_howMany cX1_howMany 2 (some FieldType.int)) (rmX 2 0 0) (va_Pc [.ref (ad 128), .int x1] (PS D K sh ad cy X B G L O)) (QI (AS K ad X) (PH D K sh ad cy X G L O) vz) 0 0 (AS K ad X) := by
  refine s_met (by decide) (Nat.le_of_ble_eq_true rfl) ?_
  intro p e s m args below meth c ls H locs E hK hBs hnm hI hl
  have hl : lv_has ls 2 [(0, .ref (ad 128)), (1, .int x1)] := hl
  have E : Cx p s m args meth c RX1 cX1_howMany 2 (some FieldType.int) := E
  obtain ⟨hx, hb, hr, hml, hown, hu, hlocks⟩ := id E
  rw [f_X1_howMany] at hf
  refine lv_aload_n hx hb dX1_howMany_0 rfl (lv_at hl 0 rfl) ?_
  refine s_get (v := .int (G 128 13)) hx hb hu inU1 hown hK hI (mE hE.1 eC_128) rfl 13 (by decide) u1_142 (fun _ h => h) rfl rfl dX1_howMany_1 ?_
  refine lv_aload_n hx hb dX1_howMany_4 rfl (lv_at hl 0 rfl) ?_
  refine s_get (v := .ref (ad 134)) hx hb hu inU1 hown hK hI (mE hE.1 eC_128) rfl 7 (by decide) u1_136 (fun _ h => h) rfl rfl dX1_howMany_5 ?_
  refine lv_iload_n hx hb dX1_howMany_8 rfl (lv_at hl 1 rfl) ?_
  obtain ⟨h1, hf⟩ := chk_i hf
  refine s_ild hx hb hK hI (mE hE.1 eC_134) (inB_i h1) dX1_howMany_9 ?_
  refine lv_iand hx hb dX1_howMany_10 ?_
  refine s_cSP (np := 1) (rest := []) E (c_J6_bitCount_0f7a4 l ((G 128 13) &&& (G 134 x1.toNatClampNeg)) rfl) kyJ6_bitCount_0f7a4 u3_230 u3_231 (by decide) rfl hl.1 rfl (Nat.le_of_ble_eq_true rfl) ⟨Nat.zero_le _, Nat.zero_le _⟩ dX1_howMany_11 ?_
  cases hf
  exact s_iret hx hb hr hI.2.2 hI.1 hlocks dX1_howMany_14
noncomputable def f_X1_ruleTells (G : Mem) (O : MemO) (S : Nat → Nat) (x1 : Int32) (x2 : Int32) (x3 : Int32) : Option (Mem × Int32) := chk (inB x1 10) (bnd (G 106 x1.toNatClampNeg) (fun x4_2 => chk (inB x4_2 4) (bnd (f_J6_bitCount_0f7a4 (((G 128 13) &&& (G 134 x4_2.toNatClampNeg)) &&& ((1 <<< (x1 &&& 31)) ^^^ (-1)))) (fun x5_4 => bnd ((f_X11_truth (f_X1_isSilent G (x1 - 1))) + (f_X11_truth (f_X1_isSilent G (x1 + 1)))) (fun x6_5 => bndO (f_X1_listen G x2 x3) (fun G6 => chk (inB x1 10) (bnd (up2 G6 129 (0 : Int32).toNatClampNeg (G6 130 x1.toNatClampNeg)) (fun G9 => bnd (up2 G9 129 (3 : Int32).toNatClampNeg x5_4) (fun G10 => bnd (up2 G10 129 (4 : Int32).toNatClampNeg x6_5) (fun G11 => chk (inB x1 10) (bnd (up2 G11 129 (5 : Int32).toNatClampNeg (G11 132 x1.toNatClampNeg)) (fun G13 => bndO (O 128 12) (fun e14 => chk (txE S e14) (bndP (f_X9_valueOf G13 S e14 0) (fun G17 v18 => (if v18 = 0 then chk (inB x4_2 4) ((if x5_4 < (G17 105 x4_2.toNatClampNeg) then some (G17, 0) else (if x6_5 = 0 then bndO (O 128 12) (fun e24 => chk (txE S e24) (bndP (f_X9_valueOf G17 S e24 1) (fun G27 v28 => (if v28 = 0 then some (G27, 0) else some (G27, 1))))) else some (G17, 0)))) else some (G17, 1)))))))))))))))))
theorem kyX1_ruleTells : Ky yX1_ruleTells cX1_ruleTells 7 (some FieldType.boolean) 3 := ⟨u3_229, u1_5, by decide, by decide, by decide, by decide +kernel⟩
set_option maxHeartbeats 4000000 in
set_option maxRecDepth 100000 in
theorem c_X1_ruleTells (l : Launch) (D : va_G) (K : List Nat) (sh : Nat → Ent) (ad : Nat → Nat) (cy : Nat → ClassId) (X : va_W) (B : State → Prop) (hcl : Bcl (AS K ad X) B) (S : Nat → Nat) (hE : HC S K sh) (G : Mem) (L : MemL) (O : MemO) (x1 : Int32) (x2 : Int32) (x3 : Int32) {Gz : Mem} {vz : Int32} (hf : f_X1_ruleTells G O S x1 x2 x3 = some (Gz, vz)) : Met l yX1_ruleTells (wsU yX1_ruleTells cX1_ruleTells 7 (some FieldType.boolean)) (rmX 3 0 0) (va_Pc [.ref (ad 128), .int x1, .int x2, .int x3] (PS D K sh ad cy X B G L O)) (QI (AS K ad X) (PH D K sh ad cy X Gz L O) vz) 0 0 (AS K ad X) := by
  refine s_met (by decide) (Nat.le_of_ble_eq_true rfl) ?_
  intro p e s m args below meth c ls H locs E hK hBs hnm hI hl
  have hl : lv_has ls 7 [(0, .ref (ad 128)), (1, .int x1), (2, .int x2), (3, .int x3)] := hl
  have E : Cx p s m args meth c RX1 cX1_ruleTells 7 (some FieldType.boolean) := E
  obtain ⟨hx, hb, hr, hml, hown, hu, hlocks⟩ := id E
  rw [f_X1_ruleTells] at hf
  refine lv_aload_n hx hb dX1_ruleTells_0 rfl (lv_at hl 0 rfl) ?_
  refine s_get (v := .ref (ad 101)) hx hb hu inU1 hown hK hI (mE hE.1 eC_128) rfl 0 (by decide) u1_127 (fun _ h => h) rfl rfl dX1_ruleTells_1 ?_
  refine s_get (v := .ref (ad 106)) hx hb hu inU4 hown hK hI (mE hE.1 eC_101) rfl 4 (by decide) u1_54 (fun _ h => h) rfl rfl dX1_ruleTells_4 ?_
  refine lv_iload_n hx hb dX1_ruleTells_7 rfl (lv_at hl 1 rfl) ?_
  obtain ⟨h1, hf⟩ := chk_i hf
  refine s_ild hx hb hK hI (mE hE.1 eC_106) (inB_i h1) dX1_ruleTells_8 ?_
  obtain ⟨x4_2, ex4_2, hf⟩ := bnd_i hf
  refine s_nmI ex4_2 ?_
  refine lv_istore (lv' := [(4, .int x4_2), (0, .ref (ad 128)), (1, .int x1), (2, .int x2), (3, .int x3)]) hx hb dX1_ruleTells_9 hl (by decide) rfl (fun ls hl => ?_)
  refine lv_aload_n hx hb dX1_ruleTells_11 rfl (lv_at hl 1 rfl) ?_
  refine s_get (v := .int (G 128 13)) hx hb hu inU1 hown hK hI (mE hE.1 eC_128) rfl 13 (by decide) u1_142 (fun _ h => h) rfl rfl dX1_ruleTells_12 ?_
  refine lv_aload_n hx hb dX1_ruleTells_15 rfl (lv_at hl 1 rfl) ?_
  refine s_get (v := .ref (ad 134)) hx hb hu inU1 hown hK hI (mE hE.1 eC_128) rfl 7 (by decide) u1_136 (fun _ h => h) rfl rfl dX1_ruleTells_16 ?_
  refine lv_iload hx hb dX1_ruleTells_19 (lv_at hl 0 rfl) ?_
  obtain ⟨h3, hf⟩ := chk_i hf
  refine s_ild hx hb hK hI (mE hE.1 eC_134) (inB_i h3) dX1_ruleTells_21 ?_
  refine lv_iand hx hb dX1_ruleTells_22 ?_
  refine lv_iconst (v := 1) hx hb dX1_ruleTells_23 (by decide) ?_
  refine lv_iload_n hx hb dX1_ruleTells_24 rfl (lv_at hl 2 rfl) ?_
  refine lv_ishl hx hb dX1_ruleTells_25 ?_
  refine lv_iconst (v := (-1)) hx hb dX1_ruleTells_26 (by decide) ?_
  refine lv_ixor hx hb dX1_ruleTells_27 ?_
  refine lv_iand hx hb dX1_ruleTells_28 ?_
  refine s_cSP (np := 1) (rest := []) E (c_J6_bitCount_0f7a4 l (((G 128 13) &&& (G 134 x4_2.toNatClampNeg)) &&& ((1 <<< (x1 &&& 31)) ^^^ (-1))) rfl) kyJ6_bitCount_0f7a4 u3_230 u3_231 (by decide) rfl hl.1 rfl (Nat.le_of_ble_eq_true rfl) ⟨Nat.zero_le _, Nat.zero_le _⟩ dX1_ruleTells_29 ?_
  obtain ⟨x5_4, ex5_4, hf⟩ := bnd_i hf
  refine s_nmI ex5_4 ?_
  refine lv_istore (lv' := [(5, .int x5_4), (4, .int x4_2), (0, .ref (ad 128)), (1, .int x1), (2, .int x2), (3, .int x3)]) hx hb dX1_ruleTells_32 hl (by decide) rfl (fun ls hl => ?_)
  refine lv_aload_n hx hb dX1_ruleTells_34 rfl (lv_at hl 2 rfl) ?_
  refine lv_iload_n hx hb dX1_ruleTells_35 rfl (lv_at hl 3 rfl) ?_
  refine lv_iconst (v := 1) hx hb dX1_ruleTells_36 (by decide) ?_
  refine lv_isub hx hb dX1_ruleTells_37 ?_
  refine s_afI hI (s_runV (rest := []) (As := [.int (x1 - 1)]) (np := 1) E hK hI (s_B hcl hBs hI) hcl.2 (mE hE.1 eC_128) rfl (c_X1_isSilent l D K sh ad cy X B hcl S hE G L O (x1 - 1) rfl) kyX1_isSilent u3_236 u3_238 up_20 (by decide) rfl hl.1 rfl (Nat.le_of_ble_eq_true rfl) ⟨Nat.zero_le _, Nat.zero_le _⟩ dX1_ruleTells_38) (fun H locs hI => ?_)
  refine s_cSNP (host := RX11) (np := 1) (rest := []) E hK (c_X11_truth l (f_X1_isSilent G (x1 - 1)) rfl) kyX11_truth (by decide) u3_138 (by decide) rfl hl.1 rfl (Nat.le_of_ble_eq_true rfl) ⟨Nat.zero_le _, Nat.zero_le _⟩ dX1_ruleTells_41 ?_
  refine lv_aload_n hx hb dX1_ruleTells_44 rfl (lv_at hl 2 rfl) ?_
  refine lv_iload_n hx hb dX1_ruleTells_45 rfl (lv_at hl 3 rfl) ?_
  refine lv_iconst (v := 1) hx hb dX1_ruleTells_46 (by decide) ?_
  refine lv_iadd hx hb dX1_ruleTells_47 ?_
  refine s_afI hI (s_runV (rest := [.int (f_X11_truth (f_X1_isSilent G (x1 - 1)))]) (As := [.int (x1 + 1)]) (np := 1) E hK hI (s_B hcl hBs hI) hcl.2 (mE hE.1 eC_128) rfl (c_X1_isSilent l D K sh ad cy X B hcl S hE G L O (x1 + 1) rfl) kyX1_isSilent u3_236 u3_238 up_20 (by decide) rfl hl.1 rfl (Nat.le_of_ble_eq_true rfl) ⟨Nat.zero_le _, Nat.zero_le _⟩ dX1_ruleTells_48) (fun H locs hI => ?_)
  refine s_cSNP (host := RX11) (np := 1) (rest := [.int (f_X11_truth (f_X1_isSilent G (x1 - 1)))]) E hK (c_X11_truth l (f_X1_isSilent G (x1 + 1)) rfl) kyX11_truth (by decide) u3_138 (by decide) rfl hl.1 rfl (Nat.le_of_ble_eq_true rfl) ⟨Nat.zero_le _, Nat.zero_le _⟩ dX1_ruleTells_51 ?_
  refine lv_iadd hx hb dX1_ruleTells_54 ?_
  obtain ⟨x6_5, ex6_5, hf⟩ := bnd_i hf
  refine s_nmI ex6_5 ?_
  refine lv_istore (lv' := [(6, .int x6_5), (5, .int x5_4), (4, .int x4_2), (0, .ref (ad 128)), (1, .int x1), (2, .int x2), (3, .int x3)]) hx hb dX1_ruleTells_55 hl (by decide) rfl (fun ls hl => ?_)
  refine lv_aload_n hx hb dX1_ruleTells_57 rfl (lv_at hl 3 rfl) ?_
  refine lv_iload_n hx hb dX1_ruleTells_58 rfl (lv_at hl 5 rfl) ?_
  refine lv_iload_n hx hb dX1_ruleTells_59 rfl (lv_at hl 6 rfl) ?_
  obtain ⟨G6, h7, hf⟩ := bndO_i hf
  refine s_afV hI (s_runV (rest := []) (As := [.int x2, .int x3]) (np := 2) E hK hI (s_B hcl hBs hI) hcl.2 (mE hE.1 eC_128) rfl (c_X1_listen l D K sh ad cy X B hcl S hE G L O x2 x3 h7) kyX1_listen u4_1 u4_3 up_21 (by decide) rfl hl.1 rfl (Nat.le_of_ble_eq_true rfl) ⟨Nat.zero_le _, Nat.zero_le _⟩ dX1_ruleTells_60) (fun H locs hI => ?_)
  refine lv_aload_n hx hb dX1_ruleTells_63 rfl (lv_at hl 3 rfl) ?_
  refine s_get (v := .ref (ad 129)) hx hb hu inU1 hown hK hI (mE hE.1 eC_128) rfl 2 (by decide) u1_129 (fun _ h => h) rfl rfl dX1_ruleTells_64 ?_
  refine lv_iconst (v := 0) hx hb dX1_ruleTells_67 (by decide) ?_
  refine lv_aload_n hx hb dX1_ruleTells_68 rfl (lv_at hl 3 rfl) ?_
  refine s_get (v := .ref (ad 130)) hx hb hu inU1 hown hK hI (mE hE.1 eC_128) rfl 3 (by decide) u1_130 (fun _ h => h) rfl rfl dX1_ruleTells_69 ?_
  refine lv_iload_n hx hb dX1_ruleTells_72 rfl (lv_at hl 4 rfl) ?_
  obtain ⟨h8, hf⟩ := chk_i hf
  refine s_ild hx hb hK hI (mE hE.1 eC_130) (inB_i h8) dX1_ruleTells_73 ?_
  obtain ⟨G9, eG9, hf⟩ := bnd_i hf
  refine s_ist hx hb hK hI (mE hE.1 eC_129) (inB_i (by decide)) eG9 dX1_ruleTells_74 (fun H locs hI => ?_)
  refine lv_aload_n hx hb dX1_ruleTells_75 rfl (lv_at hl 3 rfl) ?_
  refine s_get (v := .ref (ad 129)) hx hb hu inU1 hown hK hI (mE hE.1 eC_128) rfl 2 (by decide) u1_129 (fun _ h => h) rfl rfl dX1_ruleTells_76 ?_
  refine lv_iconst (v := 3) hx hb dX1_ruleTells_79 (by decide) ?_
  refine lv_iload hx hb dX1_ruleTells_80 (lv_at hl 1 rfl) ?_
  obtain ⟨G10, eG10, hf⟩ := bnd_i hf
  refine s_ist hx hb hK hI (mE hE.1 eC_129) (inB_i (by decide)) eG10 dX1_ruleTells_82 (fun H locs hI => ?_)
  refine lv_aload_n hx hb dX1_ruleTells_83 rfl (lv_at hl 3 rfl) ?_
  refine s_get (v := .ref (ad 129)) hx hb hu inU1 hown hK hI (mE hE.1 eC_128) rfl 2 (by decide) u1_129 (fun _ h => h) rfl rfl dX1_ruleTells_84 ?_
  refine lv_iconst (v := 4) hx hb dX1_ruleTells_87 (by decide) ?_
  refine lv_iload hx hb dX1_ruleTells_88 (lv_at hl 0 rfl) ?_
  obtain ⟨G11, eG11, hf⟩ := bnd_i hf
  refine s_ist hx hb hK hI (mE hE.1 eC_129) (inB_i (by decide)) eG11 dX1_ruleTells_90 (fun H locs hI => ?_)
  refine lv_aload_n hx hb dX1_ruleTells_91 rfl (lv_at hl 3 rfl) ?_
  refine s_get (v := .ref (ad 129)) hx hb hu inU1 hown hK hI (mE hE.1 eC_128) rfl 2 (by decide) u1_129 (fun _ h => h) rfl rfl dX1_ruleTells_92 ?_
  refine lv_iconst (v := 5) hx hb dX1_ruleTells_95 (by decide) ?_
  refine lv_aload_n hx hb dX1_ruleTells_96 rfl (lv_at hl 3 rfl) ?_
  refine s_get (v := .ref (ad 132)) hx hb hu inU1 hown hK hI (mE hE.1 eC_128) rfl 5 (by decide) u1_132 (fun _ h => h) rfl rfl dX1_ruleTells_97 ?_
  refine lv_iload_n hx hb dX1_ruleTells_100 rfl (lv_at hl 4 rfl) ?_
  obtain ⟨h12, hf⟩ := chk_i hf
  refine s_ild hx hb hK hI (mE hE.1 eC_132) (inB_i h12) dX1_ruleTells_101 ?_
  obtain ⟨G13, eG13, hf⟩ := bnd_i hf
  refine s_ist hx hb hK hI (mE hE.1 eC_129) (inB_i (by decide)) eG13 dX1_ruleTells_102 (fun H locs hI => ?_)
  refine lv_aload_n hx hb dX1_ruleTells_103 rfl (lv_at hl 3 rfl) ?_
  obtain ⟨e14, h15, hf⟩ := bndO_i hf
  obtain ⟨h16, hf⟩ := chk_i hf
  refine s_get (v := va_rf (Option.map ad (O 128 12))) hx hb hu inU1 hown hK hI (mE hE.1 eC_128) rfl 12 (by decide) u1_141 (fun _ h => h) rfl rfl dX1_ruleTells_104 ?_
  refine s_nmO h15 ?_
  refine lv_iconst (v := 0) hx hb dX1_ruleTells_107 (by decide) ?_
  refine lv_aload_n hx hb dX1_ruleTells_108 rfl (lv_at hl 3 rfl) ?_
  refine s_get (v := .ref (ad 129)) hx hb hu inU1 hown hK hI (mE hE.1 eC_128) rfl 2 (by decide) u1_129 (fun _ h => h) rfl rfl dX1_ruleTells_109 ?_
  obtain ⟨G17, v18, h19, hf⟩ := bndP_i hf
  refine s_afI hI (s_runV (rest := []) (As := [.int 0, .ref (ad 129)]) (np := 2) E hK hI (s_B hcl hBs hI) hcl.2 (hE.2.2 _ h16).1 rfl (c_X9_valueOf l D K sh ad cy X B hcl S hE e14 h16 G13 L O 0 h19) kyX9_valueOf u4_5 u4_6 u4_7 (by decide) rfl hl.1 rfl (Nat.le_of_ble_eq_true rfl) ⟨Nat.zero_le _, Nat.zero_le _⟩ dX1_ruleTells_112) (fun H locs hI => ?_)
  refine lv_if_ne (tgt := 153) hx hb dX1_ruleTells_115 (by decide) (fun c20 => ?_) (fun c20 => ?_)
  · have hf := ite_f c20 hf
    refine lv_iconst (v := 1) hx hb dX1_ruleTells_153 (by decide) ?_
    refine lv_goto (tgt := 158) hx hb dX1_ruleTells_154 (by decide) ?_
    cases hf
    exact s_zret rfl hx hb hr hI.2.2 hI.1 hlocks dX1_ruleTells_158
  · have hf := ite_t c20 hf
    refine lv_iload hx hb dX1_ruleTells_118 (lv_at hl 1 rfl) ?_
    refine lv_aload_n hx hb dX1_ruleTells_120 rfl (lv_at hl 3 rfl) ?_
    refine s_get (v := .ref (ad 101)) hx hb hu inU1 hown hK hI (mE hE.1 eC_128) rfl 0 (by decide) u1_127 (fun _ h => h) rfl rfl dX1_ruleTells_121 ?_
    refine s_get (v := .ref (ad 105)) hx hb hu inU4 hown hK hI (mE hE.1 eC_101) rfl 3 (by decide) u1_51 (fun _ h => h) rfl rfl dX1_ruleTells_124 ?_
    refine lv_iload hx hb dX1_ruleTells_127 (lv_at hl 2 rfl) ?_
    obtain ⟨h21, hf⟩ := chk_i hf
    refine s_ild hx hb hK hI (mE hE.1 eC_105) (inB_i h21) dX1_ruleTells_129 ?_
    refine lv_icmp_lt (tgt := 157) hx hb dX1_ruleTells_130 (by decide) (fun c22 => ?_) (fun c22 => ?_)
    · have hf := ite_t c22 hf
      refine lv_iconst (v := 0) hx hb dX1_ruleTells_157 (by decide) ?_
      cases hf
      exact s_zret rfl hx hb hr hI.2.2 hI.1 hlocks dX1_ruleTells_158
    · have hf := ite_f c22 hf
      refine lv_iload hx hb dX1_ruleTells_133 (lv_at hl 0 rfl) ?_
      refine lv_if_ne (tgt := 157) hx hb dX1_ruleTells_135 (by decide) (fun c23 => ?_) (fun c23 => ?_)
      · have hf := ite_f c23 hf
        refine lv_iconst (v := 0) hx hb dX1_ruleTells_157 (by decide) ?_
        cases hf
        exact s_zret rfl hx hb hr hI.2.2 hI.1 hlocks dX1_ruleTells_158
      · have hf := ite_t c23 hf
        refine lv_aload_n hx hb dX1_ruleTells_138 rfl (lv_at hl 3 rfl) ?_
        obtain ⟨e24, h25, hf⟩ := bndO_i hf
        obtain ⟨h26, hf⟩ := chk_i hf
        refine s_get (v := va_rf (Option.map ad (O 128 12))) hx hb hu inU1 hown hK hI (mE hE.1 eC_128) rfl 12 (by decide) u1_141 (fun _ h => h) rfl rfl dX1_ruleTells_139 ?_
        refine s_nmO h25 ?_
        refine lv_iconst (v := 1) hx hb dX1_ruleTells_142 (by decide) ?_
        refine lv_aload_n hx hb dX1_ruleTells_143 rfl (lv_at hl 3 rfl) ?_
        refine s_get (v := .ref (ad 129)) hx hb hu inU1 hown hK hI (mE hE.1 eC_128) rfl 2 (by decide) u1_129 (fun _ h => h) rfl rfl dX1_ruleTells_144 ?_
        obtain ⟨G27, v28, h29, hf⟩ := bndP_i hf
        refine s_afI hI (s_runV (rest := []) (As := [.int 1, .ref (ad 129)]) (np := 2) E hK hI (s_B hcl hBs hI) hcl.2 (hE.2.2 _ h26).1 rfl (c_X9_valueOf l D K sh ad cy X B hcl S hE e24 h26 G17 L O 1 h29) kyX9_valueOf u4_5 u4_6 u4_7 (by decide) rfl hl.1 rfl (Nat.le_of_ble_eq_true rfl) ⟨Nat.zero_le _, Nat.zero_le _⟩ dX1_ruleTells_147) (fun H locs hI => ?_)
        refine lv_if_eq (tgt := 157) hx hb dX1_ruleTells_150 (by decide) (fun c30 => ?_) (fun c30 => ?_)
        · have hf := ite_t c30 hf
          refine lv_iconst (v := 0) hx hb dX1_ruleTells_157 (by decide) ?_
          cases hf
          exact s_zret rfl hx hb hr hI.2.2 hI.1 hlocks dX1_ruleTells_158
        · have hf := ite_f c30 hf
          refine lv_iconst (v := 1) hx hb dX1_ruleTells_153 (by decide) ?_
          refine lv_goto (tgt := 158) hx hb dX1_ruleTells_154 (by decide) ?_
          cases hf
          exact s_zret rfl hx hb hr hI.2.2 hI.1 hlocks dX1_ruleTells_158
noncomputable def f_X1_begins (G : Mem) (L : MemL) (O : MemO) (S : Nat → Nat) (x1 : Int32) (x2 : Int32) (x3 : Int32) : Option (Mem × Int32) := (if (G 128 10) = 1 then (if 48 ≤ x2 then some (G, 0) else chk (inB x2 48) ((if (G 103 x2.toNatClampNeg) = 1 then some (G, 1) else some (G, 0)))) else (if (f_X11_isPlan (G 128 10)) = 0 then chk (inB x1 10) (chk (inB x1 10) (bndO (O 113 x1.toNatClampNeg) (fun e5 => chk (sgE S e5) (chk (inB x1 10) ((if (f_DcanHold G S e5 x3 (G 132 x1.toNatClampNeg)) ≤ (G 130 x1.toNatClampNeg) then some (G, 1) else (if (G 128 10) = 0 then bndP (f_X1_ruleTells G O S x1 x2 x3) (fun G11 v12 => (if v12 = 0 then some (G11, 0) else some (G11, 1))) else some (G, 0)))))))) else (if 48 ≤ x2 then some (G, 0) else chk (inB x1 10) ((if (lg_cmp (((L 133 x1.toNatClampNeg) >>> (x2.toInt64 &&& 63)) - ((L 133 x1.toNatClampNeg) >>> (x2.toInt64 &&& 63)) / 2 * 2) 1) = 0 then some (G, 1) else some (G, 0))))))
theorem kyX1_begins : Ky yX1_begins cX1_begins 4 (some FieldType.boolean) 3 := ⟨u3_222, u1_5, by decide, by decide, by decide, by decide +kernel⟩
set_option maxHeartbeats 4000000 in
set_option maxRecDepth 100000 in
theorem c_X1_begins (l : Launch) (D : va_G) (K : List Nat) (sh : Nat → Ent) (ad : Nat → Nat) (cy : Nat → ClassId) (X : va_W) (B : State → Prop) (hcl : Bcl (AS K ad X) B) (S : Nat → Nat) (hE : HC S K sh) (G : Mem) (L : MemL) (O : MemO) (x1 : Int32) (x2 : Int32) (x3 : Int32) {Gz : Mem} {vz : Int32} (hf : f_X1_begins G L O S x1 x2 x3 = some (Gz, vz)) : Met l yX1_begins (wsU yX1_begins cX1_begins 4 (some FieldType.boolean)) (rmX 5 0 0) (va_Pc [.ref (ad 128), .int x1, .int x2, .int x3] (PS D K sh ad cy X B G L O)) (QI (AS K ad X) (PH D K sh ad cy X Gz L O) vz) 0 0 (AS K ad X) := by
  refine s_met (by decide) (Nat.le_of_ble_eq_true rfl) ?_
  intro p e s m args below meth c ls H locs E hK hBs hnm hI hl
  have hl : lv_has ls 4 [(0, .ref (ad 128)), (1, .int x1), (2, .int x2), (3, .int x3)] := hl
  have E : Cx p s m args meth c RX1 cX1_begins 4 (some FieldType.boolean) := E
  obtain ⟨hx, hb, hr, hml, hown, hu, hlocks⟩ := id E
  rw [f_X1_begins] at hf
  refine lv_aload_n hx hb dX1_begins_0 rfl (lv_at hl 0 rfl) ?_
  refine s_get (v := .int (G 128 10)) hx hb hu inU1 hown hK hI (mE hE.1 eC_128) rfl 10 (by decide) u1_139 (fun _ h => h) rfl rfl dX1_begins_1 ?_
  refine lv_iconst (v := 1) hx hb dX1_begins_4 (by decide) ?_
  refine lv_icmp_ne (tgt := 33) hx hb dX1_begins_5 (by decide) (fun c1 => ?_) (fun c1 => ?_)
  · have hf := ite_f c1 hf
    refine lv_aload_n hx hb dX1_begins_33 rfl (lv_at hl 0 rfl) ?_
    refine s_get (v := .int (G 128 10)) hx hb hu inU1 hown hK hI (mE hE.1 eC_128) rfl 10 (by decide) u1_139 (fun _ h => h) rfl rfl dX1_begins_34 ?_
    refine s_cSNP (host := RX11) (np := 1) (rest := []) E hK (c_X11_isPlan l (G 128 10) rfl) kyX11_isPlan (by decide) u3_184 (by decide) rfl hl.1 rfl (Nat.le_of_ble_eq_true rfl) ⟨Nat.zero_le _, Nat.zero_le _⟩ dX1_begins_37 ?_
    refine lv_if_eq (tgt := 72) hx hb dX1_begins_40 (by decide) (fun c2 => ?_) (fun c2 => ?_)
    · have hf := ite_t c2 hf
      refine lv_aload_n hx hb dX1_begins_72 rfl (lv_at hl 0 rfl) ?_
      refine s_get (v := .ref (ad 130)) hx hb hu inU1 hown hK hI (mE hE.1 eC_128) rfl 3 (by decide) u1_130 (fun _ h => h) rfl rfl dX1_begins_73 ?_
      refine lv_iload_n hx hb dX1_begins_76 rfl (lv_at hl 1 rfl) ?_
      obtain ⟨h3, hf⟩ := chk_i hf
      refine s_ild hx hb hK hI (mE hE.1 eC_130) (inB_i h3) dX1_begins_77 ?_
      refine lv_aload_n hx hb dX1_begins_78 rfl (lv_at hl 0 rfl) ?_
      refine s_get (v := .ref (ad 113)) hx hb hu inU1 hown hK hI (mE hE.1 eC_128) rfl 1 (by decide) u1_128 (fun _ h => h) rfl rfl dX1_begins_79 ?_
      refine lv_iload_n hx hb dX1_begins_82 rfl (lv_at hl 1 rfl) ?_
      obtain ⟨h4, hf⟩ := chk_i hf
      obtain ⟨e5, h6, hf⟩ := bndO_i hf
      obtain ⟨h7, hf⟩ := chk_i hf
      refine s_ald (t := 6) (t0 := 5) (by decide) rfl hx hb hK hI (mE hE.1 eC_113) (inB_i h4) dX1_begins_83 ?_
      refine s_nmO h6 ?_
      refine lv_iload_n hx hb dX1_begins_84 rfl (lv_at hl 3 rfl) ?_
      refine lv_aload_n hx hb dX1_begins_85 rfl (lv_at hl 0 rfl) ?_
      refine s_get (v := .ref (ad 132)) hx hb hu inU1 hown hK hI (mE hE.1 eC_128) rfl 5 (by decide) u1_132 (fun _ h => h) rfl rfl dX1_begins_86 ?_
      refine lv_iload_n hx hb dX1_begins_89 rfl (lv_at hl 1 rfl) ?_
      obtain ⟨h8, hf⟩ := chk_i hf
      refine s_ild hx hb hK hI (mE hE.1 eC_132) (inB_i h8) dX1_begins_90 ?_
      refine s_afI hI (r_RX1_118 l D K sh ad cy X B hcl S e5 (⟨hE.2.1 _ h7, h7⟩) x3 (G 132 x1.toNatClampNeg) E hK hI (s_B hcl hBs hI) (by decide) hl.1 (Nat.le_of_ble_eq_true rfl) dX1_begins_91) (fun H locs hI => ?_)
      refine lv_icmp_ge (tgt := 114) hx hb dX1_begins_94 (by decide) (fun c9 => ?_) (fun c9 => ?_)
      · have hf := ite_t c9 hf
        refine lv_iconst (v := 1) hx hb dX1_begins_114 (by decide) ?_
        refine lv_goto (tgt := 119) hx hb dX1_begins_115 (by decide) ?_
        cases hf
        exact s_zret rfl hx hb hr hI.2.2 hI.1 hlocks dX1_begins_119
      · have hf := ite_f c9 hf
        refine lv_aload_n hx hb dX1_begins_97 rfl (lv_at hl 0 rfl) ?_
        refine s_get (v := .int (G 128 10)) hx hb hu inU1 hown hK hI (mE hE.1 eC_128) rfl 10 (by decide) u1_139 (fun _ h => h) rfl rfl dX1_begins_98 ?_
        refine lv_if_ne (tgt := 118) hx hb dX1_begins_101 (by decide) (fun c10 => ?_) (fun c10 => ?_)
        · have hf := ite_f c10 hf
          refine lv_iconst (v := 0) hx hb dX1_begins_118 (by decide) ?_
          cases hf
          exact s_zret rfl hx hb hr hI.2.2 hI.1 hlocks dX1_begins_119
        · have hf := ite_t c10 hf
          refine lv_aload_n hx hb dX1_begins_104 rfl (lv_at hl 0 rfl) ?_
          refine lv_iload_n hx hb dX1_begins_105 rfl (lv_at hl 1 rfl) ?_
          refine lv_iload_n hx hb dX1_begins_106 rfl (lv_at hl 2 rfl) ?_
          refine lv_iload_n hx hb dX1_begins_107 rfl (lv_at hl 3 rfl) ?_
          obtain ⟨G11, v12, h13, hf⟩ := bndP_i hf
          refine s_afI hI (s_runV (rest := []) (As := [.int x1, .int x2, .int x3]) (np := 3) E hK hI (s_B hcl hBs hI) hcl.2 (mE hE.1 eC_128) rfl (c_X1_ruleTells l D K sh ad cy X B hcl S hE G L O x1 x2 x3 h13) kyX1_ruleTells u3_226 u3_228 up_19 (by decide) rfl hl.1 rfl (Nat.le_of_ble_eq_true rfl) ⟨Nat.zero_le _, Nat.zero_le _⟩ dX1_begins_108) (fun H locs hI => ?_)
          refine lv_if_eq (tgt := 118) hx hb dX1_begins_111 (by decide) (fun c14 => ?_) (fun c14 => ?_)
          · have hf := ite_t c14 hf
            refine lv_iconst (v := 0) hx hb dX1_begins_118 (by decide) ?_
            cases hf
            exact s_zret rfl hx hb hr hI.2.2 hI.1 hlocks dX1_begins_119
          · have hf := ite_f c14 hf
            refine lv_iconst (v := 1) hx hb dX1_begins_114 (by decide) ?_
            refine lv_goto (tgt := 119) hx hb dX1_begins_115 (by decide) ?_
            cases hf
            exact s_zret rfl hx hb hr hI.2.2 hI.1 hlocks dX1_begins_119
    · have hf := ite_f c2 hf
      refine lv_iload_n hx hb dX1_begins_43 rfl (lv_at hl 2 rfl) ?_
      refine lv_bipush (v := 48) hx hb dX1_begins_44 (by decide) ?_
      refine lv_icmp_ge (tgt := 70) hx hb dX1_begins_46 (by decide) (fun c15 => ?_) (fun c15 => ?_)
      · have hf := ite_t c15 hf
        refine lv_iconst (v := 0) hx hb dX1_begins_70 (by decide) ?_
        cases hf
        exact s_zret rfl hx hb hr hI.2.2 hI.1 hlocks dX1_begins_71
      · have hf := ite_f c15 hf
        refine lv_aload_n hx hb dX1_begins_49 rfl (lv_at hl 0 rfl) ?_
        refine s_get (v := .ref (ad 133)) hx hb hu inU1 hown hK hI (mE hE.1 eC_128) rfl 6 (by decide) u1_134 (fun _ h => h) rfl rfl dX1_begins_50 ?_
        refine lv_iload_n hx hb dX1_begins_53 rfl (lv_at hl 1 rfl) ?_
        obtain ⟨h16, hf⟩ := chk_i hf
        refine s_lld hx hb hK hI (mE hE.1 eC_133) (inB_i h16) dX1_begins_54 ?_
        refine lv_iload_n hx hb dX1_begins_55 rfl (lv_at hl 2 rfl) ?_
        refine lv_lshr (v := ((L 133 x1.toNatClampNeg) >>> (x2.toInt64 &&& 63))) hx hb dX1_begins_56 rfl ?_
        refine lv_ldc2 (v := 2) hx hb hown (hu _ u3_224) dX1_begins_57 ?_
        refine lv_lrem hx hb dX1_begins_60 (by decide) ?_
        refine lv_lconst (v := 1) hx hb dX1_begins_61 (by decide) ?_
        refine W.lcmp hx hb dX1_begins_62 ?_
        refine lv_if_ne (tgt := 70) hx hb dX1_begins_63 (by decide) (fun c17 => ?_) (fun c17 => ?_)
        · have hf := ite_f c17 hf
          refine lv_iconst (v := 0) hx hb dX1_begins_70 (by decide) ?_
          cases hf
          exact s_zret rfl hx hb hr hI.2.2 hI.1 hlocks dX1_begins_71
        · have hf := ite_t c17 hf
          refine lv_iconst (v := 1) hx hb dX1_begins_66 (by decide) ?_
          refine lv_goto (tgt := 71) hx hb dX1_begins_67 (by decide) ?_
          cases hf
          exact s_zret rfl hx hb hr hI.2.2 hI.1 hlocks dX1_begins_71
  · have hf := ite_t c1 hf
    refine lv_iload_n hx hb dX1_begins_8 rfl (lv_at hl 2 rfl) ?_
    refine lv_bipush (v := 48) hx hb dX1_begins_9 (by decide) ?_
    refine lv_icmp_ge (tgt := 31) hx hb dX1_begins_11 (by decide) (fun c18 => ?_) (fun c18 => ?_)
    · have hf := ite_t c18 hf
      refine lv_iconst (v := 0) hx hb dX1_begins_31 (by decide) ?_
      cases hf
      exact s_zret rfl hx hb hr hI.2.2 hI.1 hlocks dX1_begins_32
    · have hf := ite_f c18 hf
      refine lv_aload_n hx hb dX1_begins_14 rfl (lv_at hl 0 rfl) ?_
      refine s_get (v := .ref (ad 101)) hx hb hu inU1 hown hK hI (mE hE.1 eC_128) rfl 0 (by decide) u1_127 (fun _ h => h) rfl rfl dX1_begins_15 ?_
      refine s_get (v := .ref (ad 103)) hx hb hu inU4 hown hK hI (mE hE.1 eC_101) rfl 1 (by decide) u1_45 (fun _ h => h) rfl rfl dX1_begins_18 ?_
      refine lv_iload_n hx hb dX1_begins_21 rfl (lv_at hl 2 rfl) ?_
      obtain ⟨h19, hf⟩ := chk_i hf
      refine s_ild hx hb hK hI (mE hE.1 eC_103) (inB_i h19) dX1_begins_22 ?_
      refine lv_iconst (v := 1) hx hb dX1_begins_23 (by decide) ?_
      refine lv_icmp_ne (tgt := 31) hx hb dX1_begins_24 (by decide) (fun c20 => ?_) (fun c20 => ?_)
      · have hf := ite_f c20 hf
        refine lv_iconst (v := 0) hx hb dX1_begins_31 (by decide) ?_
        cases hf
        exact s_zret rfl hx hb hr hI.2.2 hI.1 hlocks dX1_begins_32
      · have hf := ite_t c20 hf
        refine lv_iconst (v := 1) hx hb dX1_begins_27 (by decide) ?_
        refine lv_goto (tgt := 32) hx hb dX1_begins_28 (by decide) ?_
        cases hf
        exact s_zret rfl hx hb hr hI.2.2 hI.1 hlocks dX1_begins_32
noncomputable def q_X1_advance_154 (L : MemL) (O : MemO) (S : Nat → Nat) (x1 : Int32) (x2 : Int32)  (rec : (Mem × Int32) → Option (Mem)) : (Mem × Int32) → Option (Mem) := fun (G, x4) => (if 4 ≤ x4 then some G else bndO (f_X1_howMany G x4) (fun v4 => chk (inB x4 4) ((if (G 105 x4.toNatClampNeg) ≤ v4 then chk (inB x4 4) (bnd (up2 G 135 x4.toNatClampNeg 0) (fun G9 => bnd (x4 + 1) (fun x4_10 => rec (G9, x4_10)))) else chk (inB x4 4) (chk (inB x4 4) (bnd (up2 G 135 x4.toNatClampNeg ((G 135 x4.toNatClampNeg) + 1)) (fun G13 => bnd (x4 + 1) (fun x4_14 => rec (G13, x4_14)))))))))
noncomputable def j_X1_advance_98 (L : MemL) (O : MemO) (S : Nat → Nat) (x1 : Int32) (x2 : Int32) (k5 : (Mem × Int32 × Int32) → Option (Mem)) (G : Mem) (x3 : Int32) (x4 : Int32) : Option (Mem) := chk (inB x4 10) ((if (G 131 x4.toNatClampNeg) ≤ 0 then chk (inB x4 10) (chk (inB x4 10) (bnd (up2 G 130 x4.toNatClampNeg ((G 130 x4.toNatClampNeg) + 1)) (fun G22 => bnd (x3 ||| (1 <<< (x4 &&& 31))) (fun x3_23 => bnd (x4 + 1) (fun x4_24 => k5 (G22, x3_23, x4_24)))))) else chk (inB x4 10) (chk (inB x4 10) (bnd (up2 G 131 x4.toNatClampNeg ((G 131 x4.toNatClampNeg) - 1)) (fun G27 => bnd (x4 + 1) (fun x4_28 => k5 (G27, x3, x4_28)))))))
noncomputable def j_X1_advance_34 (L : MemL) (O : MemO) (S : Nat → Nat) (x1 : Int32) (x2 : Int32) (k5 : (Mem × Int32 × Int32) → Option (Mem)) (G : Mem) (x3 : Int32) (x4 : Int32) : Option (Mem) := chk (inB x4 10) ((if (G 131 x4.toNatClampNeg) = 0 then bndP (f_X1_begins G L O S x4 x1 x2) (fun G29 v30 => (if v30 = 0 then j_X1_advance_98 L O S x1 x2 k5 G29 x3 x4 else chk (inB x4 10) (bndO (O 113 x4.toNatClampNeg) (fun e34 => chk (sgE S e34) (chk (inB x4 10) (chk (inB x4 10) (bnd (up2 G29 131 x4.toNatClampNeg (f_DsilentSteps G29 S e34 (G29 132 x4.toNatClampNeg))) (fun G39 => chk (inB x4 10) (chk (inB x4 10) (bnd (up2 G39 132 x4.toNatClampNeg ((G39 132 x4.toNatClampNeg) + 1)) (fun G42 => chk (inB x4 10) (bnd (up2 G42 130 x4.toNatClampNeg 0) (fun G44 => j_X1_advance_98 L O S x1 x2 k5 G44 x3 x4))))))))))))) else j_X1_advance_98 L O S x1 x2 k5 G x3 x4))
noncomputable def q_X1_advance_5 (L : MemL) (O : MemO) (S : Nat → Nat) (x1 : Int32) (x2 : Int32)  (rec : (Mem × Int32 × Int32) → Option (Mem)) : (Mem × Int32 × Int32) → Option (Mem) := fun (G, x3, x4) => (if (G 128 11) ≤ x4 then bnd (up2 G 128 13 x3) (fun G2 => iter (q_X1_advance_154 L O S x1 x2) fuel (G2, 0)) else (if x4 = (G 128 14) then (if x1 < (G 128 15) then j_X1_advance_34 L O S x1 x2 rec G x3 x4 else bnd (x4 + 1) (fun x4_46 => rec (G, x3, x4_46))) else j_X1_advance_34 L O S x1 x2 rec G x3 x4))
noncomputable def f_X1_advance (G : Mem) (L : MemL) (O : MemO) (S : Nat → Nat) (x1 : Int32) (x2 : Int32) : Option (Mem) := iter (q_X1_advance_5 L O S x1 x2) fuel (G, 0, 0)
theorem kyX1_advance : Ky yX1_advance cX1_advance 5 none 2 := ⟨u3_218, u1_5, by decide, by decide, by decide, by decide +kernel⟩
set_option maxHeartbeats 4000000 in
set_option maxRecDepth 100000 in
theorem c_X1_advance (l : Launch) (D : va_G) (K : List Nat) (sh : Nat → Ent) (ad : Nat → Nat) (cy : Nat → ClassId) (X : va_W) (B : State → Prop) (hcl : Bcl (AS K ad X) B) (S : Nat → Nat) (hE : HC S K sh) (G : Mem) (L : MemL) (O : MemO) (x1 : Int32) (x2 : Int32) {Gz : Mem} (hf : f_X1_advance G L O S x1 x2 = some Gz) : Met l yX1_advance (wsU yX1_advance cX1_advance 5 none) (rmX 6 0 0) (va_Pc [.ref (ad 128), .int x1, .int x2] (PS D K sh ad cy X B G L O)) (QV (AS K ad X) (PH D K sh ad cy X Gz L O)) 0 0 (AS K ad X) := by
  refine s_met (by decide) (Nat.le_of_ble_eq_true rfl) ?_
  intro p e s m args below meth c ls H locs E hK hBs hnm hI hl
  have hl : lv_has ls 5 [(0, .ref (ad 128)), (1, .int x1), (2, .int x2)] := hl
  have E : Cx p s m args meth c RX1 cX1_advance 5 none := E
  obtain ⟨hx, hb, hr, hml, hown, hu, hlocks⟩ := id E
  have B154 : ∀   (n : Nat) (G : Mem) (x4 : Int32) (H : Heap) (locs : List Loc) (ls : Array Slot), lv_has ls 5 [(0, .ref (ad 128)), (4, .int x4)] → IS D K sh ad cy X (AS K ad X) s.heap H locs G L O → iter (q_X1_advance_154 L O S x1 x2) n (G, x4) = some Gz → W p l e (rmX 6 0 0) s m args below meth c H locs 0 0 (MQ below (QV (AS K ad X) (PH D K sh ad cy X Gz L O)) args s 0 0 (AS K ad X)) (F0 m 154 ls []) := by
    intro n
    induction n with
    | zero => intro G x4 H locs ls hl hI hf; exact iter_0 hf
    | succ n ih =>
      intro G x4 H locs ls hl hI hf
      have hf : q_X1_advance_154 L O S x1 x2 (iter (q_X1_advance_154 L O S x1 x2) n) (G, x4) = some Gz := hf
      rw [q_X1_advance_154] at hf
      refine lv_iload hx hb dX1_advance_154 (lv_at hl 1 rfl) ?_
      refine lv_iconst (v := 4) hx hb dX1_advance_156 (by decide) ?_
      refine lv_icmp_ge (tgt := 205) hx hb dX1_advance_157 (by decide) (fun c3 => ?_) (fun c3 => ?_)
      · have hf := ite_t c3 hf
        cases hf
        exact s_vret hx hb hr hI.2.2 hI.1 hlocks dX1_advance_205
      · have hf := ite_f c3 hf
        refine lv_aload_n hx hb dX1_advance_160 rfl (lv_at hl 0 rfl) ?_
        refine s_get (v := .ref (ad 135)) hx hb hu inU1 hown hK hI (mE hE.1 eC_128) rfl 8 (by decide) u1_137 (fun _ h => h) rfl rfl dX1_advance_161 ?_
        refine lv_iload hx hb dX1_advance_164 (lv_at hl 1 rfl) ?_
        refine lv_aload_n hx hb dX1_advance_166 rfl (lv_at hl 0 rfl) ?_
        refine lv_iload hx hb dX1_advance_167 (lv_at hl 1 rfl) ?_
        obtain ⟨v4, h5, hf⟩ := bndO_i hf
        refine s_afI hI (s_runV (rest := [.int x4, .ref (ad 135)]) (As := [.int x4]) (np := 1) E hK hI (s_B hcl hBs hI) hcl.2 (mE hE.1 eC_128) rfl (c_X1_howMany l D K sh ad cy X B hcl S hE G L O x4 h5) kyX1_howMany u4_15 u4_16 u4_17 (by decide) rfl hl.1 rfl (Nat.le_of_ble_eq_true rfl) ⟨Nat.zero_le _, Nat.zero_le _⟩ dX1_advance_169) (fun H locs hI => ?_)
        refine lv_aload_n hx hb dX1_advance_172 rfl (lv_at hl 0 rfl) ?_
        refine s_get (v := .ref (ad 101)) hx hb hu inU1 hown hK hI (mE hE.1 eC_128) rfl 0 (by decide) u1_127 (fun _ h => h) rfl rfl dX1_advance_173 ?_
        refine s_get (v := .ref (ad 105)) hx hb hu inU4 hown hK hI (mE hE.1 eC_101) rfl 3 (by decide) u1_51 (fun _ h => h) rfl rfl dX1_advance_176 ?_
        refine lv_iload hx hb dX1_advance_179 (lv_at hl 1 rfl) ?_
        obtain ⟨h6, hf⟩ := chk_i hf
        refine s_ild hx hb hK hI (mE hE.1 eC_105) (inB_i h6) dX1_advance_181 ?_
        refine lv_icmp_ge (tgt := 197) hx hb dX1_advance_182 (by decide) (fun c7 => ?_) (fun c7 => ?_)
        · have hf := ite_t c7 hf
          refine lv_iconst (v := 0) hx hb dX1_advance_197 (by decide) ?_
          obtain ⟨h8, hf⟩ := chk_i hf
          obtain ⟨G9, eG9, hf⟩ := bnd_i hf
          refine s_ist hx hb hK hI (mE hE.1 eC_135) (inB_i h8) eG9 dX1_advance_198 (fun H locs hI => ?_)
          obtain ⟨x4_10, ex4_10, hf⟩ := bnd_i hf
          refine lv_iinc (v := x4_10) (lv' := [(4, .int x4_10), (0, .ref (ad 128))]) hx hb dX1_advance_199 hl (k := 1) rfl (by rw [ex4_10]; rfl) (by decide) rfl (fun ls hl => ?_)
          refine lv_goto (tgt := 154) hx hb dX1_advance_202 (by decide) ?_
          exact ih G9 x4_10 H locs ls (lv_sub hl [1, 0] rfl) hI hf
        · have hf := ite_f c7 hf
          refine lv_aload_n hx hb dX1_advance_185 rfl (lv_at hl 0 rfl) ?_
          refine s_get (v := .ref (ad 135)) hx hb hu inU1 hown hK hI (mE hE.1 eC_128) rfl 8 (by decide) u1_137 (fun _ h => h) rfl rfl dX1_advance_186 ?_
          refine lv_iload hx hb dX1_advance_189 (lv_at hl 1 rfl) ?_
          obtain ⟨h11, hf⟩ := chk_i hf
          refine s_ild hx hb hK hI (mE hE.1 eC_135) (inB_i h11) dX1_advance_191 ?_
          refine lv_iconst (v := 1) hx hb dX1_advance_192 (by decide) ?_
          refine lv_iadd hx hb dX1_advance_193 ?_
          refine lv_goto (tgt := 198) hx hb dX1_advance_194 (by decide) ?_
          obtain ⟨h12, hf⟩ := chk_i hf
          obtain ⟨G13, eG13, hf⟩ := bnd_i hf
          refine s_ist hx hb hK hI (mE hE.1 eC_135) (inB_i h12) eG13 dX1_advance_198 (fun H locs hI => ?_)
          obtain ⟨x4_14, ex4_14, hf⟩ := bnd_i hf
          refine lv_iinc (v := x4_14) (lv' := [(4, .int x4_14), (0, .ref (ad 128))]) hx hb dX1_advance_199 hl (k := 1) rfl (by rw [ex4_14]; rfl) (by decide) rfl (fun ls hl => ?_)
          refine lv_goto (tgt := 154) hx hb dX1_advance_202 (by decide) ?_
          exact ih G13 x4_14 H locs ls (lv_sub hl [1, 0] rfl) hI hf
  have B98 : ∀ (k5 : (Mem × Int32 × Int32) → Option (Mem)) (hk5 : ∀ (G : Mem) (x3 : Int32) (x4 : Int32) (H : Heap) (locs : List Loc) (ls : Array Slot), lv_has ls 5 [(0, .ref (ad 128)), (1, .int x1), (2, .int x2), (3, .int x3), (4, .int x4)] → IS D K sh ad cy X (AS K ad X) s.heap H locs G L O → k5 (G, x3, x4) = some Gz → W p l e (rmX 6 0 0) s m args below meth c H locs 0 0 (MQ below (QV (AS K ad X) (PH D K sh ad cy X Gz L O)) args s 0 0 (AS K ad X)) (F0 m 5 ls []))  (G : Mem) (x3 : Int32) (x4 : Int32) (H : Heap) (locs : List Loc) (ls : Array Slot), lv_has ls 5 [(0, .ref (ad 128)), (1, .int x1), (2, .int x2), (3, .int x3), (4, .int x4)] → IS D K sh ad cy X (AS K ad X) s.heap H locs G L O → j_X1_advance_98 L O S x1 x2 k5 G x3 x4 = some Gz → W p l e (rmX 6 0 0) s m args below meth c H locs 0 0 (MQ below (QV (AS K ad X) (PH D K sh ad cy X Gz L O)) args s 0 0 (AS K ad X)) (F0 m 98 ls []) := by
    intro k5 hk5 G x3 x4 H locs ls hl hI hf
    rw [j_X1_advance_98] at hf
    refine lv_aload_n hx hb dX1_advance_98 rfl (lv_at hl 0 rfl) ?_
    refine s_get (v := .ref (ad 131)) hx hb hu inU1 hown hK hI (mE hE.1 eC_128) rfl 4 (by decide) u1_131 (fun _ h => h) rfl rfl dX1_advance_99 ?_
    refine lv_iload hx hb dX1_advance_102 (lv_at hl 4 rfl) ?_
    obtain ⟨h18, hf⟩ := chk_i hf
    refine s_ild hx hb hK hI (mE hE.1 eC_131) (inB_i h18) dX1_advance_104 ?_
    refine lv_if_le (tgt := 122) hx hb dX1_advance_105 (by decide) (fun c19 => ?_) (fun c19 => ?_)
    · have hf := ite_t c19 hf
      refine lv_aload_n hx hb dX1_advance_122 rfl (lv_at hl 0 rfl) ?_
      refine s_get (v := .ref (ad 130)) hx hb hu inU1 hown hK hI (mE hE.1 eC_128) rfl 3 (by decide) u1_130 (fun _ h => h) rfl rfl dX1_advance_123 ?_
      refine lv_iload hx hb dX1_advance_126 (lv_at hl 4 rfl) ?_
      refine lv_dup2_11 hx hb dX1_advance_128 rfl rfl ?_
      obtain ⟨h20, hf⟩ := chk_i hf
      refine s_ild hx hb hK hI (mE hE.1 eC_130) (inB_i h20) dX1_advance_129 ?_
      refine lv_iconst (v := 1) hx hb dX1_advance_130 (by decide) ?_
      refine lv_iadd hx hb dX1_advance_131 ?_
      obtain ⟨h21, hf⟩ := chk_i hf
      obtain ⟨G22, eG22, hf⟩ := bnd_i hf
      refine s_ist hx hb hK hI (mE hE.1 eC_130) (inB_i h21) eG22 dX1_advance_132 (fun H locs hI => ?_)
      refine lv_iload_n hx hb dX1_advance_133 rfl (lv_at hl 3 rfl) ?_
      refine lv_iconst (v := 1) hx hb dX1_advance_134 (by decide) ?_
      refine lv_iload hx hb dX1_advance_135 (lv_at hl 4 rfl) ?_
      refine lv_ishl hx hb dX1_advance_137 ?_
      refine lv_ior hx hb dX1_advance_138 ?_
      obtain ⟨x3_23, ex3_23, hf⟩ := bnd_i hf
      refine s_nmI ex3_23 ?_
      refine lv_istore_n (lv' := [(3, .int x3_23), (0, .ref (ad 128)), (1, .int x1), (2, .int x2), (4, .int x4)]) hx hb dX1_advance_139 rfl hl (by decide) rfl (fun ls hl => ?_)
      obtain ⟨x4_24, ex4_24, hf⟩ := bnd_i hf
      refine lv_iinc (v := x4_24) (lv' := [(4, .int x4_24), (3, .int x3_23), (0, .ref (ad 128)), (1, .int x1), (2, .int x2)]) hx hb dX1_advance_140 hl (k := 4) rfl (by rw [ex4_24]; rfl) (by decide) rfl (fun ls hl => ?_)
      refine lv_goto (tgt := 5) hx hb dX1_advance_143 (by decide) ?_
      exact hk5 G22 x3_23 x4_24 H locs ls (lv_sub hl [2, 3, 4, 1, 0] rfl) hI hf
    · have hf := ite_f c19 hf
      refine lv_aload_n hx hb dX1_advance_108 rfl (lv_at hl 0 rfl) ?_
      refine s_get (v := .ref (ad 131)) hx hb hu inU1 hown hK hI (mE hE.1 eC_128) rfl 4 (by decide) u1_131 (fun _ h => h) rfl rfl dX1_advance_109 ?_
      refine lv_iload hx hb dX1_advance_112 (lv_at hl 4 rfl) ?_
      refine lv_dup2_11 hx hb dX1_advance_114 rfl rfl ?_
      obtain ⟨h25, hf⟩ := chk_i hf
      refine s_ild hx hb hK hI (mE hE.1 eC_131) (inB_i h25) dX1_advance_115 ?_
      refine lv_iconst (v := 1) hx hb dX1_advance_116 (by decide) ?_
      refine lv_isub hx hb dX1_advance_117 ?_
      obtain ⟨h26, hf⟩ := chk_i hf
      obtain ⟨G27, eG27, hf⟩ := bnd_i hf
      refine s_ist hx hb hK hI (mE hE.1 eC_131) (inB_i h26) eG27 dX1_advance_118 (fun H locs hI => ?_)
      refine lv_goto (tgt := 140) hx hb dX1_advance_119 (by decide) ?_
      obtain ⟨x4_28, ex4_28, hf⟩ := bnd_i hf
      refine lv_iinc (v := x4_28) (lv' := [(4, .int x4_28), (0, .ref (ad 128)), (1, .int x1), (2, .int x2), (3, .int x3)]) hx hb dX1_advance_140 hl (k := 4) rfl (by rw [ex4_28]; rfl) (by decide) rfl (fun ls hl => ?_)
      refine lv_goto (tgt := 5) hx hb dX1_advance_143 (by decide) ?_
      exact hk5 G27 x3 x4_28 H locs ls (lv_sub hl [1, 2, 3, 4, 0] rfl) hI hf
  have B34 : ∀ (k5 : (Mem × Int32 × Int32) → Option (Mem)) (hk5 : ∀ (G : Mem) (x3 : Int32) (x4 : Int32) (H : Heap) (locs : List Loc) (ls : Array Slot), lv_has ls 5 [(0, .ref (ad 128)), (1, .int x1), (2, .int x2), (3, .int x3), (4, .int x4)] → IS D K sh ad cy X (AS K ad X) s.heap H locs G L O → k5 (G, x3, x4) = some Gz → W p l e (rmX 6 0 0) s m args below meth c H locs 0 0 (MQ below (QV (AS K ad X) (PH D K sh ad cy X Gz L O)) args s 0 0 (AS K ad X)) (F0 m 5 ls []))  (G : Mem) (x3 : Int32) (x4 : Int32) (H : Heap) (locs : List Loc) (ls : Array Slot), lv_has ls 5 [(0, .ref (ad 128)), (1, .int x1), (2, .int x2), (3, .int x3), (4, .int x4)] → IS D K sh ad cy X (AS K ad X) s.heap H locs G L O → j_X1_advance_34 L O S x1 x2 k5 G x3 x4 = some Gz → W p l e (rmX 6 0 0) s m args below meth c H locs 0 0 (MQ below (QV (AS K ad X) (PH D K sh ad cy X Gz L O)) args s 0 0 (AS K ad X)) (F0 m 34 ls []) := by
    intro k5 hk5 G x3 x4 H locs ls hl hI hf
    rw [j_X1_advance_34] at hf
    refine lv_aload_n hx hb dX1_advance_34 rfl (lv_at hl 0 rfl) ?_
    refine s_get (v := .ref (ad 131)) hx hb hu inU1 hown hK hI (mE hE.1 eC_128) rfl 4 (by decide) u1_131 (fun _ h => h) rfl rfl dX1_advance_35 ?_
    refine lv_iload hx hb dX1_advance_38 (lv_at hl 4 rfl) ?_
    obtain ⟨h16, hf⟩ := chk_i hf
    refine s_ild hx hb hK hI (mE hE.1 eC_131) (inB_i h16) dX1_advance_40 ?_
    refine lv_if_ne (tgt := 98) hx hb dX1_advance_41 (by decide) (fun c17 => ?_) (fun c17 => ?_)
    · have hf := ite_f c17 hf
      exact B98 _ hk5  G x3 x4 H locs ls (lv_sub hl [0, 1, 2, 3, 4] rfl) hI hf
    · have hf := ite_t c17 hf
      refine lv_aload_n hx hb dX1_advance_44 rfl (lv_at hl 0 rfl) ?_
      refine lv_iload hx hb dX1_advance_45 (lv_at hl 4 rfl) ?_
      refine lv_iload_n hx hb dX1_advance_47 rfl (lv_at hl 1 rfl) ?_
      refine lv_iload_n hx hb dX1_advance_48 rfl (lv_at hl 2 rfl) ?_
      obtain ⟨G29, v30, h31, hf⟩ := bndP_i hf
      refine s_afI hI (s_runV (rest := []) (As := [.int x4, .int x1, .int x2]) (np := 3) E hK hI (s_B hcl hBs hI) hcl.2 (mE hE.1 eC_128) rfl (c_X1_begins l D K sh ad cy X B hcl S hE G L O x4 x1 x2 h31) kyX1_begins u3_219 u3_221 up_18 (by decide) rfl hl.1 rfl (Nat.le_of_ble_eq_true rfl) ⟨Nat.zero_le _, Nat.zero_le _⟩ dX1_advance_49) (fun H locs hI => ?_)
      refine lv_if_eq (tgt := 98) hx hb dX1_advance_52 (by decide) (fun c32 => ?_) (fun c32 => ?_)
      · have hf := ite_t c32 hf
        exact B98 _ hk5  G29 x3 x4 H locs ls (lv_sub hl [0, 1, 2, 3, 4] rfl) hI hf
      · have hf := ite_f c32 hf
        refine lv_aload_n hx hb dX1_advance_55 rfl (lv_at hl 0 rfl) ?_
        refine s_get (v := .ref (ad 131)) hx hb hu inU1 hown hK hI (mE hE.1 eC_128) rfl 4 (by decide) u1_131 (fun _ h => h) rfl rfl dX1_advance_56 ?_
        refine lv_iload hx hb dX1_advance_59 (lv_at hl 4 rfl) ?_
        refine lv_aload_n hx hb dX1_advance_61 rfl (lv_at hl 0 rfl) ?_
        refine s_get (v := .ref (ad 113)) hx hb hu inU1 hown hK hI (mE hE.1 eC_128) rfl 1 (by decide) u1_128 (fun _ h => h) rfl rfl dX1_advance_62 ?_
        refine lv_iload hx hb dX1_advance_65 (lv_at hl 4 rfl) ?_
        obtain ⟨h33, hf⟩ := chk_i hf
        obtain ⟨e34, h35, hf⟩ := bndO_i hf
        obtain ⟨h36, hf⟩ := chk_i hf
        refine s_ald (t := 6) (t0 := 5) (by decide) rfl hx hb hK hI (mE hE.1 eC_113) (inB_i h33) dX1_advance_67 ?_
        refine s_nmO h35 ?_
        refine lv_aload_n hx hb dX1_advance_68 rfl (lv_at hl 0 rfl) ?_
        refine s_get (v := .ref (ad 132)) hx hb hu inU1 hown hK hI (mE hE.1 eC_128) rfl 5 (by decide) u1_132 (fun _ h => h) rfl rfl dX1_advance_69 ?_
        refine lv_iload hx hb dX1_advance_72 (lv_at hl 4 rfl) ?_
        obtain ⟨h37, hf⟩ := chk_i hf
        refine s_ild hx hb hK hI (mE hE.1 eC_132) (inB_i h37) dX1_advance_74 ?_
        refine s_afI hI (r_RX1_97 l D K sh ad cy X B hcl S e34 (⟨hE.2.1 _ h36, h36⟩) (G29 132 x4.toNatClampNeg) E hK hI (s_B hcl hBs hI) (by decide) hl.1 (Nat.le_of_ble_eq_true rfl) dX1_advance_75) (fun H locs hI => ?_)
        obtain ⟨h38, hf⟩ := chk_i hf
        obtain ⟨G39, eG39, hf⟩ := bnd_i hf
        refine s_ist hx hb hK hI (mE hE.1 eC_131) (inB_i h38) eG39 dX1_advance_78 (fun H locs hI => ?_)
        refine lv_aload_n hx hb dX1_advance_79 rfl (lv_at hl 0 rfl) ?_
        refine s_get (v := .ref (ad 132)) hx hb hu inU1 hown hK hI (mE hE.1 eC_128) rfl 5 (by decide) u1_132 (fun _ h => h) rfl rfl dX1_advance_80 ?_
        refine lv_iload hx hb dX1_advance_83 (lv_at hl 4 rfl) ?_
        refine lv_dup2_11 hx hb dX1_advance_85 rfl rfl ?_
        obtain ⟨h40, hf⟩ := chk_i hf
        refine s_ild hx hb hK hI (mE hE.1 eC_132) (inB_i h40) dX1_advance_86 ?_
        refine lv_iconst (v := 1) hx hb dX1_advance_87 (by decide) ?_
        refine lv_iadd hx hb dX1_advance_88 ?_
        obtain ⟨h41, hf⟩ := chk_i hf
        obtain ⟨G42, eG42, hf⟩ := bnd_i hf
        refine s_ist hx hb hK hI (mE hE.1 eC_132) (inB_i h41) eG42 dX1_advance_89 (fun H locs hI => ?_)
        refine lv_aload_n hx hb dX1_advance_90 rfl (lv_at hl 0 rfl) ?_
        refine s_get (v := .ref (ad 130)) hx hb hu inU1 hown hK hI (mE hE.1 eC_128) rfl 3 (by decide) u1_130 (fun _ h => h) rfl rfl dX1_advance_91 ?_
        refine lv_iload hx hb dX1_advance_94 (lv_at hl 4 rfl) ?_
        refine lv_iconst (v := 0) hx hb dX1_advance_96 (by decide) ?_
        obtain ⟨h43, hf⟩ := chk_i hf
        obtain ⟨G44, eG44, hf⟩ := bnd_i hf
        refine s_ist hx hb hK hI (mE hE.1 eC_130) (inB_i h43) eG44 dX1_advance_97 (fun H locs hI => ?_)
        exact B98 _ hk5  G44 x3 x4 H locs ls (lv_sub hl [0, 1, 2, 3, 4] rfl) hI hf
  have B5 : ∀   (n : Nat) (G : Mem) (x3 : Int32) (x4 : Int32) (H : Heap) (locs : List Loc) (ls : Array Slot), lv_has ls 5 [(0, .ref (ad 128)), (1, .int x1), (2, .int x2), (3, .int x3), (4, .int x4)] → IS D K sh ad cy X (AS K ad X) s.heap H locs G L O → iter (q_X1_advance_5 L O S x1 x2) n (G, x3, x4) = some Gz → W p l e (rmX 6 0 0) s m args below meth c H locs 0 0 (MQ below (QV (AS K ad X) (PH D K sh ad cy X Gz L O)) args s 0 0 (AS K ad X)) (F0 m 5 ls []) := by
    intro n
    induction n with
    | zero => intro G x3 x4 H locs ls hl hI hf; exact iter_0 hf
    | succ n ih =>
      intro G x3 x4 H locs ls hl hI hf
      have hf : q_X1_advance_5 L O S x1 x2 (iter (q_X1_advance_5 L O S x1 x2) n) (G, x3, x4) = some Gz := hf
      rw [q_X1_advance_5] at hf
      refine lv_iload hx hb dX1_advance_5 (lv_at hl 4 rfl) ?_
      refine lv_aload_n hx hb dX1_advance_7 rfl (lv_at hl 0 rfl) ?_
      refine s_get (v := .int (G 128 11)) hx hb hu inU1 hown hK hI (mE hE.1 eC_128) rfl 11 (by decide) u1_140 (fun _ h => h) rfl rfl dX1_advance_8 ?_
      refine lv_icmp_ge (tgt := 146) hx hb dX1_advance_11 (by decide) (fun c1 => ?_) (fun c1 => ?_)
      · have hf := ite_t c1 hf
        refine lv_aload_n hx hb dX1_advance_146 rfl (lv_at hl 0 rfl) ?_
        refine lv_iload_n hx hb dX1_advance_147 rfl (lv_at hl 3 rfl) ?_
        obtain ⟨G2, eG2, hf⟩ := bnd_i hf
        refine s_put (ty := .int) hx hb hu inU1 tyX1_ok nmX1 hown hK hI (mE hE.1 eC_128) rfl 13 (by decide) u1_142 (fun _ h => h) rfl rfl (tyX1_ok 13 (by decide)) rfl rfl eG2 dX1_advance_148 (fun H locs hI => ?_)
        refine lv_iconst (v := 0) hx hb dX1_advance_151 (by decide) ?_
        refine lv_istore (lv' := [(4, .int 0), (0, .ref (ad 128)), (1, .int x1), (2, .int x2), (3, .int x3)]) hx hb dX1_advance_152 hl (by decide) rfl (fun ls hl => ?_)
        exact B154   fuel G2 0 H locs ls (lv_sub hl [1, 0] rfl) hI hf
      · have hf := ite_f c1 hf
        refine lv_iload hx hb dX1_advance_14 (lv_at hl 4 rfl) ?_
        refine lv_aload_n hx hb dX1_advance_16 rfl (lv_at hl 0 rfl) ?_
        refine s_get (v := .int (G 128 14)) hx hb hu inU1 hown hK hI (mE hE.1 eC_128) rfl 14 (by decide) u1_144 (fun _ h => h) rfl rfl dX1_advance_17 ?_
        refine lv_icmp_ne (tgt := 34) hx hb dX1_advance_20 (by decide) (fun c15 => ?_) (fun c15 => ?_)
        · have hf := ite_f c15 hf
          exact B34 _ ih  G x3 x4 H locs ls (lv_sub hl [0, 1, 2, 3, 4] rfl) hI hf
        · have hf := ite_t c15 hf
          refine lv_iload_n hx hb dX1_advance_23 rfl (lv_at hl 1 rfl) ?_
          refine lv_aload_n hx hb dX1_advance_24 rfl (lv_at hl 0 rfl) ?_
          refine s_get (v := .int (G 128 15)) hx hb hu inU1 hown hK hI (mE hE.1 eC_128) rfl 15 (by decide) u1_145 (fun _ h => h) rfl rfl dX1_advance_25 ?_
          refine lv_icmp_lt (tgt := 34) hx hb dX1_advance_28 (by decide) (fun c45 => ?_) (fun c45 => ?_)
          · have hf := ite_t c45 hf
            exact B34 _ ih  G x3 x4 H locs ls (lv_sub hl [0, 1, 2, 3, 4] rfl) hI hf
          · have hf := ite_f c45 hf
            refine lv_goto (tgt := 140) hx hb dX1_advance_31 (by decide) ?_
            obtain ⟨x4_46, ex4_46, hf⟩ := bnd_i hf
            refine lv_iinc (v := x4_46) (lv' := [(4, .int x4_46), (0, .ref (ad 128)), (1, .int x1), (2, .int x2), (3, .int x3)]) hx hb dX1_advance_140 hl (k := 4) rfl (by rw [ex4_46]; rfl) (by decide) rfl (fun ls hl => ?_)
            refine lv_goto (tgt := 5) hx hb dX1_advance_143 (by decide) ?_
            exact ih G x3 x4_46 H locs ls (lv_sub hl [1, 2, 3, 4, 0] rfl) hI hf
  rw [f_X1_advance] at hf
  refine lv_iconst (v := 0) hx hb dX1_advance_0 (by decide) ?_
  refine lv_istore_n (lv' := [(3, .int 0), (0, .ref (ad 128)), (1, .int x1), (2, .int x2)]) hx hb dX1_advance_1 rfl hl (by decide) rfl (fun ls hl => ?_)
  refine lv_iconst (v := 0) hx hb dX1_advance_2 (by decide) ?_
  refine lv_istore (lv' := [(4, .int 0), (3, .int 0), (0, .ref (ad 128)), (1, .int x1), (2, .int x2)]) hx hb dX1_advance_3 hl (by decide) rfl (fun ls hl => ?_)
  exact B5   fuel G 0 0 H locs ls (lv_sub hl [2, 3, 4, 1, 0] rfl) hI hf
noncomputable def f_X1_isHeard (G : Mem) (x1 : Int32) : Option (Int32) := chk (inB x1 4) ((if (G 135 x1.toNatClampNeg) ≤ (G 101 6) then some 0 else some 1))
theorem kyX1_isHeard : Ky yX1_isHeard cX1_isHeard 2 (some FieldType.boolean) 1 := ⟨u4_35, u1_5, by decide, by decide, by decide, by decide +kernel⟩
set_option maxHeartbeats 4000000 in
set_option maxRecDepth 100000 in
theorem c_X1_isHeard (l : Launch) (D : va_G) (K : List Nat) (sh : Nat → Ent) (ad : Nat → Nat) (cy : Nat → ClassId) (X : va_W) (B : State → Prop) (hcl : Bcl (AS K ad X) B) (S : Nat → Nat) (hE : HC S K sh) (G : Mem) (L : MemL) (O : MemO) (x1 : Int32)  {vz : Int32} (hf : f_X1_isHeard G x1 = some vz) : Met l yX1_isHeard (wsU yX1_isHeard cX1_isHeard 2 (some FieldType.boolean)) (rmX 1 0 0) (va_Pc [.ref (ad 128), .int x1] (PS D K sh ad cy X B G L O)) (QI (AS K ad X) (PH D K sh ad cy X G L O) vz) 0 0 (AS K ad X) := by
  refine s_met (by decide) (Nat.le_of_ble_eq_true rfl) ?_
  intro p e s m args below meth c ls H locs E hK hBs hnm hI hl
  have hl : lv_has ls 2 [(0, .ref (ad 128)), (1, .int x1)] := hl
  have E : Cx p s m args meth c RX1 cX1_isHeard 2 (some FieldType.boolean) := E
  obtain ⟨hx, hb, hr, hml, hown, hu, hlocks⟩ := id E
  rw [f_X1_isHeard] at hf
  refine lv_aload_n hx hb dX1_isHeard_0 rfl (lv_at hl 0 rfl) ?_
  refine s_get (v := .ref (ad 135)) hx hb hu inU1 hown hK hI (mE hE.1 eC_128) rfl 8 (by decide) u1_137 (fun _ h => h) rfl rfl dX1_isHeard_1 ?_
  refine lv_iload_n hx hb dX1_isHeard_4 rfl (lv_at hl 1 rfl) ?_
  obtain ⟨h1, hf⟩ := chk_i hf
  refine s_ild hx hb hK hI (mE hE.1 eC_135) (inB_i h1) dX1_isHeard_5 ?_
  refine lv_aload_n hx hb dX1_isHeard_6 rfl (lv_at hl 0 rfl) ?_
  refine s_get (v := .ref (ad 101)) hx hb hu inU1 hown hK hI (mE hE.1 eC_128) rfl 0 (by decide) u1_127 (fun _ h => h) rfl rfl dX1_isHeard_7 ?_
  refine s_get (v := .int (G 101 6)) hx hb hu inU4 hown hK hI (mE hE.1 eC_101) rfl 6 (by decide) u1_60 (fun _ h => h) rfl rfl dX1_isHeard_10 ?_
  refine lv_icmp_le (tgt := 20) hx hb dX1_isHeard_13 (by decide) (fun c2 => ?_) (fun c2 => ?_)
  · have hf := ite_t c2 hf
    refine lv_iconst (v := 0) hx hb dX1_isHeard_20 (by decide) ?_
    cases hf
    exact s_zret rfl hx hb hr hI.2.2 hI.1 hlocks dX1_isHeard_21
  · have hf := ite_f c2 hf
    refine lv_iconst (v := 1) hx hb dX1_isHeard_16 (by decide) ?_
    refine lv_goto (tgt := 21) hx hb dX1_isHeard_17 (by decide) ?_
    cases hf
    exact s_zret rfl hx hb hr hI.2.2 hI.1 hlocks dX1_isHeard_21
noncomputable def f_X1_allBreaths (G : Mem)  : Option (Int32) := bndO (f_X11_sumOf G 132 10 (G 128 11)) (fun v1 => some v1)
theorem kyX1_allBreaths : Ky yX1_allBreaths cX1_allBreaths 1 (some FieldType.int) 0 := ⟨u4_65, u1_5, by decide, by decide, by decide, by decide +kernel⟩
set_option maxHeartbeats 4000000 in
set_option maxRecDepth 100000 in
theorem c_X1_allBreaths (l : Launch) (D : va_G) (K : List Nat) (sh : Nat → Ent) (ad : Nat → Nat) (cy : Nat → ClassId) (X : va_W) (B : State → Prop) (hcl : Bcl (AS K ad X) B) (S : Nat → Nat) (hE : HC S K sh) (G : Mem) (L : MemL) (O : MemO)   {vz : Int32} (hf : f_X1_allBreaths G = some vz) : Met l yX1_allBreaths (wsU yX1_allBreaths cX1_allBreaths 1 (some FieldType.int)) (rmX 2 0 0) (va_Pc [.ref (ad 128)] (PS D K sh ad cy X B G L O)) (QI (AS K ad X) (PH D K sh ad cy X G L O) vz) 0 0 (AS K ad X) := by
  refine s_met (by decide) (Nat.le_of_ble_eq_true rfl) ?_
  intro p e s m args below meth c ls H locs E hK hBs hnm hI hl
  have hl : lv_has ls 1 [(0, .ref (ad 128))] := hl
  have E : Cx p s m args meth c RX1 cX1_allBreaths 1 (some FieldType.int) := E
  obtain ⟨hx, hb, hr, hml, hown, hu, hlocks⟩ := id E
  rw [f_X1_allBreaths] at hf
  refine lv_aload_n hx hb dX1_allBreaths_0 rfl (lv_at hl 0 rfl) ?_
  refine s_get (v := .ref (ad 132)) hx hb hu inU1 hown hK hI (mE hE.1 eC_128) rfl 5 (by decide) u1_132 (fun _ h => h) rfl rfl dX1_allBreaths_1 ?_
  refine lv_aload_n hx hb dX1_allBreaths_4 rfl (lv_at hl 0 rfl) ?_
  refine s_get (v := .int (G 128 11)) hx hb hu inU1 hown hK hI (mE hE.1 eC_128) rfl 11 (by decide) u1_140 (fun _ h => h) rfl rfl dX1_allBreaths_5 ?_
  obtain ⟨v1, h2, hf⟩ := bndO_i hf
  refine s_afI hI (s_runSN (host := RX11) (rest := []) (np := 2) E hK hI (s_B hcl hBs hI) hcl.2 (c_X11_sumOf l D K sh ad cy X B hcl S hE 132 10 (mE hE.1 eC_132) G L O (G 128 11) h2) kyX11_sumOf (by decide) u4_67 (by decide) rfl hl.1 rfl (Nat.le_of_ble_eq_true rfl) ⟨Nat.zero_le _, Nat.zero_le _⟩ dX1_allBreaths_8) (fun H locs hI => ?_)
  cases hf
  exact s_iret hx hb hr hI.2.2 hI.1 hlocks dX1_allBreaths_11
noncomputable def q_X1_stateOf_5 (G : Mem) (x1 : Int32) (x2 : Int32)  (rec : (Int64 × Int32) → Option (Int64)) : (Int64 × Int32) → Option (Int64) := fun (w3, x5) => (if x2 ≤ x5 then some w3 else (if (G 128 11) ≤ x5 then some w3 else chk (inB x5 10) (chk (inB x5 10) (bnd (((w3 <<< ((12 : Int32).toInt64 &&& 63)) + (((G 130 x5.toNatClampNeg) <<< (5 &&& 31)).toInt64)) + ((G 131 x5.toNatClampNeg).toInt64)) (fun w3_5 => bnd (x5 + 1) (fun x5_6 => rec (w3_5, x5_6)))))))
noncomputable def f_X1_stateOf (G : Mem) (x1 : Int32) (x2 : Int32) : Option (Int64) := iter (q_X1_stateOf_5 G x1 x2) fuel (0, x1)
theorem kyX1_stateOf : Ky yX1_stateOf cX1_stateOf 6 (some FieldType.long) 2 := ⟨u4_80, u1_5, by decide, by decide, by decide, by decide +kernel⟩
set_option maxHeartbeats 4000000 in
set_option maxRecDepth 100000 in
theorem c_X1_stateOf (l : Launch) (D : va_G) (K : List Nat) (sh : Nat → Ent) (ad : Nat → Nat) (cy : Nat → ClassId) (X : va_W) (B : State → Prop) (hcl : Bcl (AS K ad X) B) (S : Nat → Nat) (hE : HC S K sh) (G : Mem) (L : MemL) (O : MemO) (x1 : Int32) (x2 : Int32)  {vz : Int64} (hf : f_X1_stateOf G x1 x2 = some vz) : Met l yX1_stateOf (wsU yX1_stateOf cX1_stateOf 6 (some FieldType.long)) (rmX 1 0 0) (va_Pc [.ref (ad 128), .int x1, .int x2] (PS D K sh ad cy X B G L O)) (QL (AS K ad X) (PH D K sh ad cy X G L O) vz) 0 0 (AS K ad X) := by
  refine s_met (by decide) (Nat.le_of_ble_eq_true rfl) ?_
  intro p e s m args below meth c ls H locs E hK hBs hnm hI hl
  have hl : lv_has ls 6 [(0, .ref (ad 128)), (1, .int x1), (2, .int x2)] := hl
  have E : Cx p s m args meth c RX1 cX1_stateOf 6 (some FieldType.long) := E
  obtain ⟨hx, hb, hr, hml, hown, hu, hlocks⟩ := id E
  have B5 : ∀   (n : Nat) (w3 : Int64) (x5 : Int32) (H : Heap) (locs : List Loc) (ls : Array Slot), lv_has ls 6 [(0, .ref (ad 128)), (2, .int x2), (3, .long w3), (5, .int x5)] → IS D K sh ad cy X (AS K ad X) s.heap H locs G L O → iter (q_X1_stateOf_5 G x1 x2) n (w3, x5) = some vz → W p l e (rmX 1 0 0) s m args below meth c H locs 0 0 (MQ below (QL (AS K ad X) (PH D K sh ad cy X G L O) vz) args s 0 0 (AS K ad X)) (F0 m 5 ls []) := by
    intro n
    induction n with
    | zero => intro w3 x5 H locs ls hl hI hf; exact iter_0 hf
    | succ n ih =>
      intro w3 x5 H locs ls hl hI hf
      have hf : q_X1_stateOf_5 G x1 x2 (iter (q_X1_stateOf_5 G x1 x2) n) (w3, x5) = some vz := hf
      rw [q_X1_stateOf_5] at hf
      refine lv_iload hx hb dX1_stateOf_5 (lv_at hl 3 rfl) ?_
      refine lv_iload_n hx hb dX1_stateOf_7 rfl (lv_at hl 1 rfl) ?_
      refine lv_icmp_ge (tgt := 51) hx hb dX1_stateOf_8 (by decide) (fun c1 => ?_) (fun c1 => ?_)
      · have hf := ite_t c1 hf
        refine lv_lload_n hx hb dX1_stateOf_51 rfl (lv_at hl 2 rfl) ?_
        cases hf
        exact s_lret hx hb hr hI.2.2 hI.1 hlocks dX1_stateOf_52
      · have hf := ite_f c1 hf
        refine lv_iload hx hb dX1_stateOf_11 (lv_at hl 3 rfl) ?_
        refine lv_aload_n hx hb dX1_stateOf_13 rfl (lv_at hl 0 rfl) ?_
        refine s_get (v := .int (G 128 11)) hx hb hu inU1 hown hK hI (mE hE.1 eC_128) rfl 11 (by decide) u1_140 (fun _ h => h) rfl rfl dX1_stateOf_14 ?_
        refine lv_icmp_ge (tgt := 51) hx hb dX1_stateOf_17 (by decide) (fun c2 => ?_) (fun c2 => ?_)
        · have hf := ite_t c2 hf
          refine lv_lload_n hx hb dX1_stateOf_51 rfl (lv_at hl 2 rfl) ?_
          cases hf
          exact s_lret hx hb hr hI.2.2 hI.1 hlocks dX1_stateOf_52
        · have hf := ite_f c2 hf
          refine lv_lload_n hx hb dX1_stateOf_20 rfl (lv_at hl 2 rfl) ?_
          refine lv_bipush (v := 12) hx hb dX1_stateOf_21 (by decide) ?_
          refine lv_lshl (v := (w3 <<< ((12 : Int32).toInt64 &&& 63))) hx hb dX1_stateOf_23 rfl ?_
          refine lv_aload_n hx hb dX1_stateOf_24 rfl (lv_at hl 0 rfl) ?_
          refine s_get (v := .ref (ad 130)) hx hb hu inU1 hown hK hI (mE hE.1 eC_128) rfl 3 (by decide) u1_130 (fun _ h => h) rfl rfl dX1_stateOf_25 ?_
          refine lv_iload hx hb dX1_stateOf_28 (lv_at hl 3 rfl) ?_
          obtain ⟨h3, hf⟩ := chk_i hf
          refine s_ild hx hb hK hI (mE hE.1 eC_130) (inB_i h3) dX1_stateOf_30 ?_
          refine lv_iconst (v := 5) hx hb dX1_stateOf_31 (by decide) ?_
          refine lv_ishl hx hb dX1_stateOf_32 ?_
          refine lv_i2l (v := (((G 130 x5.toNatClampNeg) <<< (5 &&& 31)).toInt64)) hx hb dX1_stateOf_33 rfl ?_
          refine lv_ladd hx hb dX1_stateOf_34 ?_
          refine lv_aload_n hx hb dX1_stateOf_35 rfl (lv_at hl 0 rfl) ?_
          refine s_get (v := .ref (ad 131)) hx hb hu inU1 hown hK hI (mE hE.1 eC_128) rfl 4 (by decide) u1_131 (fun _ h => h) rfl rfl dX1_stateOf_36 ?_
          refine lv_iload hx hb dX1_stateOf_39 (lv_at hl 3 rfl) ?_
          obtain ⟨h4, hf⟩ := chk_i hf
          refine s_ild hx hb hK hI (mE hE.1 eC_131) (inB_i h4) dX1_stateOf_41 ?_
          refine lv_i2l (v := ((G 131 x5.toNatClampNeg).toInt64)) hx hb dX1_stateOf_42 rfl ?_
          refine lv_ladd hx hb dX1_stateOf_43 ?_
          obtain ⟨w3_5, ew3_5, hf⟩ := bnd_i hf
          refine s_nmL ew3_5 ?_
          refine lv_lstore_n (lv' := [(3, .long w3_5), (0, .ref (ad 128)), (2, .int x2), (5, .int x5)]) hx hb dX1_stateOf_44 rfl hl (by decide) rfl (fun ls hl => ?_)
          obtain ⟨x5_6, ex5_6, hf⟩ := bnd_i hf
          refine lv_iinc (v := x5_6) (lv' := [(5, .int x5_6), (3, .long w3_5), (0, .ref (ad 128)), (2, .int x2)]) hx hb dX1_stateOf_45 hl (k := 3) rfl (by rw [ex5_6]; rfl) (by decide) rfl (fun ls hl => ?_)
          refine lv_goto (tgt := 5) hx hb dX1_stateOf_48 (by decide) ?_
          exact ih w3_5 x5_6 H locs ls (lv_sub hl [2, 3, 1, 0] rfl) hI hf
  rw [f_X1_stateOf] at hf
  refine lv_lconst (v := 0) hx hb dX1_stateOf_0 (by decide) ?_
  refine lv_lstore_n (lv' := [(3, .long 0), (0, .ref (ad 128)), (1, .int x1), (2, .int x2)]) hx hb dX1_stateOf_1 rfl hl (by decide) rfl (fun ls hl => ?_)
  refine lv_iload_n hx hb dX1_stateOf_2 rfl (lv_at hl 2 rfl) ?_
  refine lv_istore (lv' := [(5, .int x1), (3, .long 0), (0, .ref (ad 128)), (1, .int x1), (2, .int x2)]) hx hb dX1_stateOf_3 hl (by decide) rfl (fun ls hl => ?_)
  exact B5   fuel 0 x1 H locs ls (lv_sub hl [2, 4, 1, 0] rfl) hI hf
noncomputable def q_X1_isSaid_4 (G : Mem) (O : MemO) (S : Nat → Nat) (x1 : Int32)  (rec : (Int32 × Int32) → Option (Int32)) : (Int32 × Int32) → Option (Int32) := fun (x2, x3) => (if (G 128 11) ≤ x3 then (if x2 < 1 then some 0 else (if 3 < x2 then some 0 else some 1)) else (if (f_X1_isSilent G x3) = 0 then chk (inB x3 10) (bndO (O 113 x3.toNatClampNeg) (fun e7 => chk (sgE S e7) ((if (f_Dsays G S e7 x1) = 0 then bnd (x3 + 1) (fun x3_11 => rec (x2, x3_11)) else bnd (x2 + 1) (fun x2_12 => bnd (x3 + 1) (fun x3_13 => rec (x2_12, x3_13))))))) else bnd (x3 + 1) (fun x3_5 => rec (x2, x3_5))))
noncomputable def f_X1_isSaid (G : Mem) (O : MemO) (S : Nat → Nat) (x1 : Int32) : Option (Int32) := iter (q_X1_isSaid_4 G O S x1) fuel (0, 0)
theorem kyX1_isSaid : Ky yX1_isSaid cX1_isSaid 4 (some FieldType.boolean) 1 := ⟨u4_39, u1_5, by decide, by decide, by decide, by decide +kernel⟩
set_option maxHeartbeats 4000000 in
set_option maxRecDepth 100000 in
theorem c_X1_isSaid (l : Launch) (D : va_G) (K : List Nat) (sh : Nat → Ent) (ad : Nat → Nat) (cy : Nat → ClassId) (X : va_W) (B : State → Prop) (hcl : Bcl (AS K ad X) B) (S : Nat → Nat) (hE : HC S K sh) (G : Mem) (L : MemL) (O : MemO) (x1 : Int32)  {vz : Int32} (hf : f_X1_isSaid G O S x1 = some vz) : Met l yX1_isSaid (wsU yX1_isSaid cX1_isSaid 4 (some FieldType.boolean)) (rmX 3 0 0) (va_Pc [.ref (ad 128), .int x1] (PS D K sh ad cy X B G L O)) (QI (AS K ad X) (PH D K sh ad cy X G L O) vz) 0 0 (AS K ad X) := by
  refine s_met (by decide) (Nat.le_of_ble_eq_true rfl) ?_
  intro p e s m args below meth c ls H locs E hK hBs hnm hI hl
  have hl : lv_has ls 4 [(0, .ref (ad 128)), (1, .int x1)] := hl
  have E : Cx p s m args meth c RX1 cX1_isSaid 4 (some FieldType.boolean) := E
  obtain ⟨hx, hb, hr, hml, hown, hu, hlocks⟩ := id E
  have B4 : ∀   (n : Nat) (x2 : Int32) (x3 : Int32) (H : Heap) (locs : List Loc) (ls : Array Slot), lv_has ls 4 [(0, .ref (ad 128)), (1, .int x1), (2, .int x2), (3, .int x3)] → IS D K sh ad cy X (AS K ad X) s.heap H locs G L O → iter (q_X1_isSaid_4 G O S x1) n (x2, x3) = some vz → W p l e (rmX 3 0 0) s m args below meth c H locs 0 0 (MQ below (QI (AS K ad X) (PH D K sh ad cy X G L O) vz) args s 0 0 (AS K ad X)) (F0 m 4 ls []) := by
    intro n
    induction n with
    | zero => intro x2 x3 H locs ls hl hI hf; exact iter_0 hf
    | succ n ih =>
      intro x2 x3 H locs ls hl hI hf
      have hf : q_X1_isSaid_4 G O S x1 (iter (q_X1_isSaid_4 G O S x1) n) (x2, x3) = some vz := hf
      rw [q_X1_isSaid_4] at hf
      refine lv_iload_n hx hb dX1_isSaid_4 rfl (lv_at hl 3 rfl) ?_
      refine lv_aload_n hx hb dX1_isSaid_5 rfl (lv_at hl 0 rfl) ?_
      refine s_get (v := .int (G 128 11)) hx hb hu inU1 hown hK hI (mE hE.1 eC_128) rfl 11 (by decide) u1_140 (fun _ h => h) rfl rfl dX1_isSaid_6 ?_
      refine lv_icmp_ge (tgt := 42) hx hb dX1_isSaid_9 (by decide) (fun c1 => ?_) (fun c1 => ?_)
      · have hf := ite_t c1 hf
        refine lv_iload_n hx hb dX1_isSaid_42 rfl (lv_at hl 2 rfl) ?_
        refine lv_iconst (v := 1) hx hb dX1_isSaid_43 (by decide) ?_
        refine lv_icmp_lt (tgt := 56) hx hb dX1_isSaid_44 (by decide) (fun c2 => ?_) (fun c2 => ?_)
        · have hf := ite_t c2 hf
          refine lv_iconst (v := 0) hx hb dX1_isSaid_56 (by decide) ?_
          cases hf
          exact s_zret rfl hx hb hr hI.2.2 hI.1 hlocks dX1_isSaid_57
        · have hf := ite_f c2 hf
          refine lv_iload_n hx hb dX1_isSaid_47 rfl (lv_at hl 2 rfl) ?_
          refine lv_iconst (v := 3) hx hb dX1_isSaid_48 (by decide) ?_
          refine lv_icmp_gt (tgt := 56) hx hb dX1_isSaid_49 (by decide) (fun c3 => ?_) (fun c3 => ?_)
          · have hf := ite_t c3 hf
            refine lv_iconst (v := 0) hx hb dX1_isSaid_56 (by decide) ?_
            cases hf
            exact s_zret rfl hx hb hr hI.2.2 hI.1 hlocks dX1_isSaid_57
          · have hf := ite_f c3 hf
            refine lv_iconst (v := 1) hx hb dX1_isSaid_52 (by decide) ?_
            refine lv_goto (tgt := 57) hx hb dX1_isSaid_53 (by decide) ?_
            cases hf
            exact s_zret rfl hx hb hr hI.2.2 hI.1 hlocks dX1_isSaid_57
      · have hf := ite_f c1 hf
        refine lv_aload_n hx hb dX1_isSaid_12 rfl (lv_at hl 0 rfl) ?_
        refine lv_iload_n hx hb dX1_isSaid_13 rfl (lv_at hl 3 rfl) ?_
        refine s_afI hI (s_runV (rest := []) (As := [.int x3]) (np := 1) E hK hI (s_B hcl hBs hI) hcl.2 (mE hE.1 eC_128) rfl (c_X1_isSilent l D K sh ad cy X B hcl S hE G L O x3 rfl) kyX1_isSilent u3_236 u3_238 up_20 (by decide) rfl hl.1 rfl (Nat.le_of_ble_eq_true rfl) ⟨Nat.zero_le _, Nat.zero_le _⟩ dX1_isSaid_14) (fun H locs hI => ?_)
        refine lv_if_ne (tgt := 36) hx hb dX1_isSaid_17 (by decide) (fun c4 => ?_) (fun c4 => ?_)
        · have hf := ite_f c4 hf
          obtain ⟨x3_5, ex3_5, hf⟩ := bnd_i hf
          refine lv_iinc (v := x3_5) (lv' := [(3, .int x3_5), (0, .ref (ad 128)), (1, .int x1), (2, .int x2)]) hx hb dX1_isSaid_36 hl (k := 3) rfl (by rw [ex3_5]; rfl) (by decide) rfl (fun ls hl => ?_)
          refine lv_goto (tgt := 4) hx hb dX1_isSaid_39 (by decide) ?_
          exact ih x2 x3_5 H locs ls (lv_sub hl [1, 2, 3, 0] rfl) hI hf
        · have hf := ite_t c4 hf
          refine lv_aload_n hx hb dX1_isSaid_20 rfl (lv_at hl 0 rfl) ?_
          refine s_get (v := .ref (ad 113)) hx hb hu inU1 hown hK hI (mE hE.1 eC_128) rfl 1 (by decide) u1_128 (fun _ h => h) rfl rfl dX1_isSaid_21 ?_
          refine lv_iload_n hx hb dX1_isSaid_24 rfl (lv_at hl 3 rfl) ?_
          obtain ⟨h6, hf⟩ := chk_i hf
          obtain ⟨e7, h8, hf⟩ := bndO_i hf
          obtain ⟨h9, hf⟩ := chk_i hf
          refine s_ald (t := 6) (t0 := 5) (by decide) rfl hx hb hK hI (mE hE.1 eC_113) (inB_i h6) dX1_isSaid_25 ?_
          refine s_nmO h8 ?_
          refine lv_iload_n hx hb dX1_isSaid_26 rfl (lv_at hl 1 rfl) ?_
          refine s_afI hI (r_RX1_166 l D K sh ad cy X B hcl S e7 (⟨hE.2.1 _ h9, h9⟩) x1 E hK hI (s_B hcl hBs hI) (by decide) hl.1 (Nat.le_of_ble_eq_true rfl) dX1_isSaid_27) (fun H locs hI => ?_)
          refine lv_if_eq (tgt := 36) hx hb dX1_isSaid_30 (by decide) (fun c10 => ?_) (fun c10 => ?_)
          · have hf := ite_t c10 hf
            obtain ⟨x3_11, ex3_11, hf⟩ := bnd_i hf
            refine lv_iinc (v := x3_11) (lv' := [(3, .int x3_11), (0, .ref (ad 128)), (1, .int x1), (2, .int x2)]) hx hb dX1_isSaid_36 hl (k := 3) rfl (by rw [ex3_11]; rfl) (by decide) rfl (fun ls hl => ?_)
            refine lv_goto (tgt := 4) hx hb dX1_isSaid_39 (by decide) ?_
            exact ih x2 x3_11 H locs ls (lv_sub hl [1, 2, 3, 0] rfl) hI hf
          · have hf := ite_f c10 hf
            obtain ⟨x2_12, ex2_12, hf⟩ := bnd_i hf
            refine lv_iinc (v := x2_12) (lv' := [(2, .int x2_12), (0, .ref (ad 128)), (1, .int x1), (3, .int x3)]) hx hb dX1_isSaid_33 hl (k := 2) rfl (by rw [ex2_12]; rfl) (by decide) rfl (fun ls hl => ?_)
            obtain ⟨x3_13, ex3_13, hf⟩ := bnd_i hf
            refine lv_iinc (v := x3_13) (lv' := [(3, .int x3_13), (2, .int x2_12), (0, .ref (ad 128)), (1, .int x1)]) hx hb dX1_isSaid_36 hl (k := 3) rfl (by rw [ex3_13]; rfl) (by decide) rfl (fun ls hl => ?_)
            refine lv_goto (tgt := 4) hx hb dX1_isSaid_39 (by decide) ?_
            exact ih x2_12 x3_13 H locs ls (lv_sub hl [2, 3, 1, 0] rfl) hI hf
  rw [f_X1_isSaid] at hf
  refine lv_iconst (v := 0) hx hb dX1_isSaid_0 (by decide) ?_
  refine lv_istore_n (lv' := [(2, .int 0), (0, .ref (ad 128)), (1, .int x1)]) hx hb dX1_isSaid_1 rfl hl (by decide) rfl (fun ls hl => ?_)
  refine lv_iconst (v := 0) hx hb dX1_isSaid_2 (by decide) ?_
  refine lv_istore_n (lv' := [(3, .int 0), (2, .int 0), (0, .ref (ad 128)), (1, .int x1)]) hx hb dX1_isSaid_3 rfl hl (by decide) rfl (fun ls hl => ?_)
  exact B4   fuel 0 0 H locs ls (lv_sub hl [2, 3, 1, 0] rfl) hI hf
noncomputable def q_X1_wrongHere_108 (G : Mem) (O : MemO) (S : Nat → Nat) (x1 : Int32)  (rec : (Int32 × Int32) → Option (Int32)) : (Int32 × Int32) → Option (Int32) := fun (x2, x3) => (if 4 ≤ x3 then chk (inB x1 48) ((if (G 104 x1.toNatClampNeg) = 1 then bndO (f_X1_isSaid G O S x2) (fun v8 => (if v8 = 0 then some 400 else some (-1))) else some (-1))) else bndO (f_X1_isHeard G x3) (fun v11 => (if v11 = 0 then bnd (x3 + 1) (fun x3_14 => rec (x2, x3_14)) else some (300 + x3))))
noncomputable def q_X1_wrongHere_66 (G : Mem) (O : MemO) (S : Nat → Nat) (x1 : Int32)  (rec : (Int32 × Int32) → Option (Int32)) : (Int32 × Int32) → Option (Int32) := fun (x2, x3) => (if (G 128 11) ≤ (x3 + 1) then iter (q_X1_wrongHere_108 G O S x1) fuel (x2, 0) else (if (f_X1_isSilent G x3) = 0 then bnd (x3 + 1) (fun x3_16 => rec (x2, x3_16)) else (if (f_X1_isSilent G (x3 + 1)) = 0 then bnd (x3 + 1) (fun x3_18 => rec (x2, x3_18)) else some (200 + x3))))
noncomputable def q_X1_wrongHere_12 (G : Mem) (O : MemO) (S : Nat → Nat) (x1 : Int32)  (rec : (Int32 × Int32) → Option (Int32)) : (Int32 × Int32) → Option (Int32) := fun (x2, x3) => (if (G 128 11) ≤ x3 then iter (q_X1_wrongHere_66 G O S x1) fuel (x2, 0) else (if (f_X1_isSilent G x3) = 0 then chk (inB x3 10) (chk (inB x3 10) (bndO (O 113 x3.toNatClampNeg) (fun e23 => chk (sgE S e23) (chk (inB x3 10) ((if (G 130 x3.toNatClampNeg) ≤ (f_DcanHold G S e23 x2 (G 132 x3.toNatClampNeg)) then bnd (x3 + 1) (fun x3_28 => rec (x2, x3_28)) else some (100 + x3))))))) else bnd (x3 + 1) (fun x3_20 => rec (x2, x3_20))))
noncomputable def f_X1_wrongHere (G : Mem) (O : MemO) (S : Nat → Nat) (x1 : Int32) : Option (Int32) := chk (inB x1 48) (bnd (G 102 x1.toNatClampNeg) (fun x2_2 => iter (q_X1_wrongHere_12 G O S x1) fuel (x2_2, 0)))
theorem kyX1_wrongHere : Ky yX1_wrongHere cX1_wrongHere 4 (some FieldType.int) 1 := ⟨u4_31, u1_5, by decide, by decide, by decide, by decide +kernel⟩
set_option maxHeartbeats 4000000 in
set_option maxRecDepth 100000 in
theorem c_X1_wrongHere (l : Launch) (D : va_G) (K : List Nat) (sh : Nat → Ent) (ad : Nat → Nat) (cy : Nat → ClassId) (X : va_W) (B : State → Prop) (hcl : Bcl (AS K ad X) B) (S : Nat → Nat) (hE : HC S K sh) (G : Mem) (L : MemL) (O : MemO) (x1 : Int32)  {vz : Int32} (hf : f_X1_wrongHere G O S x1 = some vz) : Met l yX1_wrongHere (wsU yX1_wrongHere cX1_wrongHere 4 (some FieldType.int)) (rmX 5 0 0) (va_Pc [.ref (ad 128), .int x1] (PS D K sh ad cy X B G L O)) (QI (AS K ad X) (PH D K sh ad cy X G L O) vz) 0 0 (AS K ad X) := by
  refine s_met (by decide) (Nat.le_of_ble_eq_true rfl) ?_
  intro p e s m args below meth c ls H locs E hK hBs hnm hI hl
  have hl : lv_has ls 4 [(0, .ref (ad 128)), (1, .int x1)] := hl
  have E : Cx p s m args meth c RX1 cX1_wrongHere 4 (some FieldType.int) := E
  obtain ⟨hx, hb, hr, hml, hown, hu, hlocks⟩ := id E
  have B108 : ∀   (n : Nat) (x2 : Int32) (x3 : Int32) (H : Heap) (locs : List Loc) (ls : Array Slot), lv_has ls 4 [(0, .ref (ad 128)), (1, .int x1), (2, .int x2), (3, .int x3)] → IS D K sh ad cy X (AS K ad X) s.heap H locs G L O → iter (q_X1_wrongHere_108 G O S x1) n (x2, x3) = some vz → W p l e (rmX 5 0 0) s m args below meth c H locs 0 0 (MQ below (QI (AS K ad X) (PH D K sh ad cy X G L O) vz) args s 0 0 (AS K ad X)) (F0 m 108 ls []) := by
    intro n
    induction n with
    | zero => intro x2 x3 H locs ls hl hI hf; exact iter_0 hf
    | succ n ih =>
      intro x2 x3 H locs ls hl hI hf
      have hf : q_X1_wrongHere_108 G O S x1 (iter (q_X1_wrongHere_108 G O S x1) n) (x2, x3) = some vz := hf
      rw [q_X1_wrongHere_108] at hf
      refine lv_iload_n hx hb dX1_wrongHere_108 rfl (lv_at hl 3 rfl) ?_
      refine lv_iconst (v := 4) hx hb dX1_wrongHere_109 (by decide) ?_
      refine lv_icmp_ge (tgt := 133) hx hb dX1_wrongHere_110 (by decide) (fun c5 => ?_) (fun c5 => ?_)
      · have hf := ite_t c5 hf
        refine lv_aload_n hx hb dX1_wrongHere_133 rfl (lv_at hl 0 rfl) ?_
        refine s_get (v := .ref (ad 101)) hx hb hu inU1 hown hK hI (mE hE.1 eC_128) rfl 0 (by decide) u1_127 (fun _ h => h) rfl rfl dX1_wrongHere_134 ?_
        refine s_get (v := .ref (ad 104)) hx hb hu inU4 hown hK hI (mE hE.1 eC_101) rfl 2 (by decide) u1_48 (fun _ h => h) rfl rfl dX1_wrongHere_137 ?_
        refine lv_iload_n hx hb dX1_wrongHere_140 rfl (lv_at hl 1 rfl) ?_
        obtain ⟨h6, hf⟩ := chk_i hf
        refine s_ild hx hb hK hI (mE hE.1 eC_104) (inB_i h6) dX1_wrongHere_141 ?_
        refine lv_iconst (v := 1) hx hb dX1_wrongHere_142 (by decide) ?_
        refine lv_icmp_ne (tgt := 160) hx hb dX1_wrongHere_143 (by decide) (fun c7 => ?_) (fun c7 => ?_)
        · have hf := ite_f c7 hf
          refine lv_iconst (v := (-1)) hx hb dX1_wrongHere_160 (by decide) ?_
          cases hf
          exact s_iret hx hb hr hI.2.2 hI.1 hlocks dX1_wrongHere_161
        · have hf := ite_t c7 hf
          refine lv_aload_n hx hb dX1_wrongHere_146 rfl (lv_at hl 0 rfl) ?_
          refine lv_iload_n hx hb dX1_wrongHere_147 rfl (lv_at hl 2 rfl) ?_
          obtain ⟨v8, h9, hf⟩ := bndO_i hf
          refine s_afI hI (s_runV (rest := []) (As := [.int x2]) (np := 1) E hK hI (s_B hcl hBs hI) hcl.2 (mE hE.1 eC_128) rfl (c_X1_isSaid l D K sh ad cy X B hcl S hE G L O x2 h9) kyX1_isSaid u4_36 u4_38 up_23 (by decide) rfl hl.1 rfl (Nat.le_of_ble_eq_true rfl) ⟨Nat.zero_le _, Nat.zero_le _⟩ dX1_wrongHere_148) (fun H locs hI => ?_)
          refine lv_if_ne (tgt := 160) hx hb dX1_wrongHere_151 (by decide) (fun c10 => ?_) (fun c10 => ?_)
          · have hf := ite_f c10 hf
            refine lv_iconst (v := (-1)) hx hb dX1_wrongHere_160 (by decide) ?_
            cases hf
            exact s_iret hx hb hr hI.2.2 hI.1 hlocks dX1_wrongHere_161
          · have hf := ite_t c10 hf
            refine lv_sipush (v := 400) hx hb dX1_wrongHere_154 (by decide) ?_
            refine lv_goto (tgt := 161) hx hb dX1_wrongHere_157 (by decide) ?_
            cases hf
            exact s_iret hx hb hr hI.2.2 hI.1 hlocks dX1_wrongHere_161
      · have hf := ite_f c5 hf
        refine lv_aload_n hx hb dX1_wrongHere_113 rfl (lv_at hl 0 rfl) ?_
        refine lv_iload_n hx hb dX1_wrongHere_114 rfl (lv_at hl 3 rfl) ?_
        obtain ⟨v11, h12, hf⟩ := bndO_i hf
        refine s_afI hI (s_runV (rest := []) (As := [.int x3]) (np := 1) E hK hI (s_B hcl hBs hI) hcl.2 (mE hE.1 eC_128) rfl (c_X1_isHeard l D K sh ad cy X B hcl S hE G L O x3 h12) kyX1_isHeard u4_32 u4_34 up_22 (by decide) rfl hl.1 rfl (Nat.le_of_ble_eq_true rfl) ⟨Nat.zero_le _, Nat.zero_le _⟩ dX1_wrongHere_115) (fun H locs hI => ?_)
        refine lv_if_eq (tgt := 127) hx hb dX1_wrongHere_118 (by decide) (fun c13 => ?_) (fun c13 => ?_)
        · have hf := ite_t c13 hf
          obtain ⟨x3_14, ex3_14, hf⟩ := bnd_i hf
          refine lv_iinc (v := x3_14) (lv' := [(3, .int x3_14), (0, .ref (ad 128)), (1, .int x1), (2, .int x2)]) hx hb dX1_wrongHere_127 hl (k := 3) rfl (by rw [ex3_14]; rfl) (by decide) rfl (fun ls hl => ?_)
          refine lv_goto (tgt := 108) hx hb dX1_wrongHere_130 (by decide) ?_
          exact ih x2 x3_14 H locs ls (lv_sub hl [1, 2, 3, 0] rfl) hI hf
        · have hf := ite_f c13 hf
          refine lv_sipush (v := 300) hx hb dX1_wrongHere_121 (by decide) ?_
          refine lv_iload_n hx hb dX1_wrongHere_124 rfl (lv_at hl 3 rfl) ?_
          refine lv_iadd hx hb dX1_wrongHere_125 ?_
          cases hf
          exact s_iret hx hb hr hI.2.2 hI.1 hlocks dX1_wrongHere_126
  have B66 : ∀   (n : Nat) (x2 : Int32) (x3 : Int32) (H : Heap) (locs : List Loc) (ls : Array Slot), lv_has ls 4 [(0, .ref (ad 128)), (1, .int x1), (2, .int x2), (3, .int x3)] → IS D K sh ad cy X (AS K ad X) s.heap H locs G L O → iter (q_X1_wrongHere_66 G O S x1) n (x2, x3) = some vz → W p l e (rmX 5 0 0) s m args below meth c H locs 0 0 (MQ below (QI (AS K ad X) (PH D K sh ad cy X G L O) vz) args s 0 0 (AS K ad X)) (F0 m 66 ls []) := by
    intro n
    induction n with
    | zero => intro x2 x3 H locs ls hl hI hf; exact iter_0 hf
    | succ n ih =>
      intro x2 x3 H locs ls hl hI hf
      have hf : q_X1_wrongHere_66 G O S x1 (iter (q_X1_wrongHere_66 G O S x1) n) (x2, x3) = some vz := hf
      rw [q_X1_wrongHere_66] at hf
      refine lv_iload_n hx hb dX1_wrongHere_66 rfl (lv_at hl 3 rfl) ?_
      refine lv_iconst (v := 1) hx hb dX1_wrongHere_67 (by decide) ?_
      refine lv_iadd hx hb dX1_wrongHere_68 ?_
      refine lv_aload_n hx hb dX1_wrongHere_69 rfl (lv_at hl 0 rfl) ?_
      refine s_get (v := .int (G 128 11)) hx hb hu inU1 hown hK hI (mE hE.1 eC_128) rfl 11 (by decide) u1_140 (fun _ h => h) rfl rfl dX1_wrongHere_70 ?_
      refine lv_icmp_ge (tgt := 106) hx hb dX1_wrongHere_73 (by decide) (fun c4 => ?_) (fun c4 => ?_)
      · have hf := ite_t c4 hf
        refine lv_iconst (v := 0) hx hb dX1_wrongHere_106 (by decide) ?_
        refine lv_istore_n (lv' := [(3, .int 0), (0, .ref (ad 128)), (1, .int x1), (2, .int x2)]) hx hb dX1_wrongHere_107 rfl hl (by decide) rfl (fun ls hl => ?_)
        exact B108   fuel x2 0 H locs ls (lv_sub hl [1, 2, 3, 0] rfl) hI hf
      · have hf := ite_f c4 hf
        refine lv_aload_n hx hb dX1_wrongHere_76 rfl (lv_at hl 0 rfl) ?_
        refine lv_iload_n hx hb dX1_wrongHere_77 rfl (lv_at hl 3 rfl) ?_
        refine s_afI hI (s_runV (rest := []) (As := [.int x3]) (np := 1) E hK hI (s_B hcl hBs hI) hcl.2 (mE hE.1 eC_128) rfl (c_X1_isSilent l D K sh ad cy X B hcl S hE G L O x3 rfl) kyX1_isSilent u3_236 u3_238 up_20 (by decide) rfl hl.1 rfl (Nat.le_of_ble_eq_true rfl) ⟨Nat.zero_le _, Nat.zero_le _⟩ dX1_wrongHere_78) (fun H locs hI => ?_)
        refine lv_if_eq (tgt := 100) hx hb dX1_wrongHere_81 (by decide) (fun c15 => ?_) (fun c15 => ?_)
        · have hf := ite_t c15 hf
          obtain ⟨x3_16, ex3_16, hf⟩ := bnd_i hf
          refine lv_iinc (v := x3_16) (lv' := [(3, .int x3_16), (0, .ref (ad 128)), (1, .int x1), (2, .int x2)]) hx hb dX1_wrongHere_100 hl (k := 3) rfl (by rw [ex3_16]; rfl) (by decide) rfl (fun ls hl => ?_)
          refine lv_goto (tgt := 66) hx hb dX1_wrongHere_103 (by decide) ?_
          exact ih x2 x3_16 H locs ls (lv_sub hl [1, 2, 3, 0] rfl) hI hf
        · have hf := ite_f c15 hf
          refine lv_aload_n hx hb dX1_wrongHere_84 rfl (lv_at hl 0 rfl) ?_
          refine lv_iload_n hx hb dX1_wrongHere_85 rfl (lv_at hl 3 rfl) ?_
          refine lv_iconst (v := 1) hx hb dX1_wrongHere_86 (by decide) ?_
          refine lv_iadd hx hb dX1_wrongHere_87 ?_
          refine s_afI hI (s_runV (rest := []) (As := [.int (x3 + 1)]) (np := 1) E hK hI (s_B hcl hBs hI) hcl.2 (mE hE.1 eC_128) rfl (c_X1_isSilent l D K sh ad cy X B hcl S hE G L O (x3 + 1) rfl) kyX1_isSilent u3_236 u3_238 up_20 (by decide) rfl hl.1 rfl (Nat.le_of_ble_eq_true rfl) ⟨Nat.zero_le _, Nat.zero_le _⟩ dX1_wrongHere_88) (fun H locs hI => ?_)
          refine lv_if_eq (tgt := 100) hx hb dX1_wrongHere_91 (by decide) (fun c17 => ?_) (fun c17 => ?_)
          · have hf := ite_t c17 hf
            obtain ⟨x3_18, ex3_18, hf⟩ := bnd_i hf
            refine lv_iinc (v := x3_18) (lv' := [(3, .int x3_18), (0, .ref (ad 128)), (1, .int x1), (2, .int x2)]) hx hb dX1_wrongHere_100 hl (k := 3) rfl (by rw [ex3_18]; rfl) (by decide) rfl (fun ls hl => ?_)
            refine lv_goto (tgt := 66) hx hb dX1_wrongHere_103 (by decide) ?_
            exact ih x2 x3_18 H locs ls (lv_sub hl [1, 2, 3, 0] rfl) hI hf
          · have hf := ite_f c17 hf
            refine lv_sipush (v := 200) hx hb dX1_wrongHere_94 (by decide) ?_
            refine lv_iload_n hx hb dX1_wrongHere_97 rfl (lv_at hl 3 rfl) ?_
            refine lv_iadd hx hb dX1_wrongHere_98 ?_
            cases hf
            exact s_iret hx hb hr hI.2.2 hI.1 hlocks dX1_wrongHere_99
  have B12 : ∀   (n : Nat) (x2 : Int32) (x3 : Int32) (H : Heap) (locs : List Loc) (ls : Array Slot), lv_has ls 4 [(0, .ref (ad 128)), (1, .int x1), (2, .int x2), (3, .int x3)] → IS D K sh ad cy X (AS K ad X) s.heap H locs G L O → iter (q_X1_wrongHere_12 G O S x1) n (x2, x3) = some vz → W p l e (rmX 5 0 0) s m args below meth c H locs 0 0 (MQ below (QI (AS K ad X) (PH D K sh ad cy X G L O) vz) args s 0 0 (AS K ad X)) (F0 m 12 ls []) := by
    intro n
    induction n with
    | zero => intro x2 x3 H locs ls hl hI hf; exact iter_0 hf
    | succ n ih =>
      intro x2 x3 H locs ls hl hI hf
      have hf : q_X1_wrongHere_12 G O S x1 (iter (q_X1_wrongHere_12 G O S x1) n) (x2, x3) = some vz := hf
      rw [q_X1_wrongHere_12] at hf
      refine lv_iload_n hx hb dX1_wrongHere_12 rfl (lv_at hl 3 rfl) ?_
      refine lv_aload_n hx hb dX1_wrongHere_13 rfl (lv_at hl 0 rfl) ?_
      refine s_get (v := .int (G 128 11)) hx hb hu inU1 hown hK hI (mE hE.1 eC_128) rfl 11 (by decide) u1_140 (fun _ h => h) rfl rfl dX1_wrongHere_14 ?_
      refine lv_icmp_ge (tgt := 64) hx hb dX1_wrongHere_17 (by decide) (fun c3 => ?_) (fun c3 => ?_)
      · have hf := ite_t c3 hf
        refine lv_iconst (v := 0) hx hb dX1_wrongHere_64 (by decide) ?_
        refine lv_istore_n (lv' := [(3, .int 0), (0, .ref (ad 128)), (1, .int x1), (2, .int x2)]) hx hb dX1_wrongHere_65 rfl hl (by decide) rfl (fun ls hl => ?_)
        exact B66   fuel x2 0 H locs ls (lv_sub hl [1, 2, 3, 0] rfl) hI hf
      · have hf := ite_f c3 hf
        refine lv_aload_n hx hb dX1_wrongHere_20 rfl (lv_at hl 0 rfl) ?_
        refine lv_iload_n hx hb dX1_wrongHere_21 rfl (lv_at hl 3 rfl) ?_
        refine s_afI hI (s_runV (rest := []) (As := [.int x3]) (np := 1) E hK hI (s_B hcl hBs hI) hcl.2 (mE hE.1 eC_128) rfl (c_X1_isSilent l D K sh ad cy X B hcl S hE G L O x3 rfl) kyX1_isSilent u3_236 u3_238 up_20 (by decide) rfl hl.1 rfl (Nat.le_of_ble_eq_true rfl) ⟨Nat.zero_le _, Nat.zero_le _⟩ dX1_wrongHere_22) (fun H locs hI => ?_)
        refine lv_if_ne (tgt := 58) hx hb dX1_wrongHere_25 (by decide) (fun c19 => ?_) (fun c19 => ?_)
        · have hf := ite_f c19 hf
          obtain ⟨x3_20, ex3_20, hf⟩ := bnd_i hf
          refine lv_iinc (v := x3_20) (lv' := [(3, .int x3_20), (0, .ref (ad 128)), (1, .int x1), (2, .int x2)]) hx hb dX1_wrongHere_58 hl (k := 3) rfl (by rw [ex3_20]; rfl) (by decide) rfl (fun ls hl => ?_)
          refine lv_goto (tgt := 12) hx hb dX1_wrongHere_61 (by decide) ?_
          exact ih x2 x3_20 H locs ls (lv_sub hl [1, 2, 3, 0] rfl) hI hf
        · have hf := ite_t c19 hf
          refine lv_aload_n hx hb dX1_wrongHere_28 rfl (lv_at hl 0 rfl) ?_
          refine s_get (v := .ref (ad 130)) hx hb hu inU1 hown hK hI (mE hE.1 eC_128) rfl 3 (by decide) u1_130 (fun _ h => h) rfl rfl dX1_wrongHere_29 ?_
          refine lv_iload_n hx hb dX1_wrongHere_32 rfl (lv_at hl 3 rfl) ?_
          obtain ⟨h21, hf⟩ := chk_i hf
          refine s_ild hx hb hK hI (mE hE.1 eC_130) (inB_i h21) dX1_wrongHere_33 ?_
          refine lv_aload_n hx hb dX1_wrongHere_34 rfl (lv_at hl 0 rfl) ?_
          refine s_get (v := .ref (ad 113)) hx hb hu inU1 hown hK hI (mE hE.1 eC_128) rfl 1 (by decide) u1_128 (fun _ h => h) rfl rfl dX1_wrongHere_35 ?_
          refine lv_iload_n hx hb dX1_wrongHere_38 rfl (lv_at hl 3 rfl) ?_
          obtain ⟨h22, hf⟩ := chk_i hf
          obtain ⟨e23, h24, hf⟩ := bndO_i hf
          obtain ⟨h25, hf⟩ := chk_i hf
          refine s_ald (t := 6) (t0 := 5) (by decide) rfl hx hb hK hI (mE hE.1 eC_113) (inB_i h22) dX1_wrongHere_39 ?_
          refine s_nmO h24 ?_
          refine lv_iload_n hx hb dX1_wrongHere_40 rfl (lv_at hl 2 rfl) ?_
          refine lv_aload_n hx hb dX1_wrongHere_41 rfl (lv_at hl 0 rfl) ?_
          refine s_get (v := .ref (ad 132)) hx hb hu inU1 hown hK hI (mE hE.1 eC_128) rfl 5 (by decide) u1_132 (fun _ h => h) rfl rfl dX1_wrongHere_42 ?_
          refine lv_iload_n hx hb dX1_wrongHere_45 rfl (lv_at hl 3 rfl) ?_
          obtain ⟨h26, hf⟩ := chk_i hf
          refine s_ild hx hb hK hI (mE hE.1 eC_132) (inB_i h26) dX1_wrongHere_46 ?_
          refine s_afI hI (r_RX1_118 l D K sh ad cy X B hcl S e23 (⟨hE.2.1 _ h25, h25⟩) x2 (G 132 x3.toNatClampNeg) E hK hI (s_B hcl hBs hI) (by decide) hl.1 (Nat.le_of_ble_eq_true rfl) dX1_wrongHere_47) (fun H locs hI => ?_)
          refine lv_icmp_le (tgt := 58) hx hb dX1_wrongHere_50 (by decide) (fun c27 => ?_) (fun c27 => ?_)
          · have hf := ite_t c27 hf
            obtain ⟨x3_28, ex3_28, hf⟩ := bnd_i hf
            refine lv_iinc (v := x3_28) (lv' := [(3, .int x3_28), (0, .ref (ad 128)), (1, .int x1), (2, .int x2)]) hx hb dX1_wrongHere_58 hl (k := 3) rfl (by rw [ex3_28]; rfl) (by decide) rfl (fun ls hl => ?_)
            refine lv_goto (tgt := 12) hx hb dX1_wrongHere_61 (by decide) ?_
            exact ih x2 x3_28 H locs ls (lv_sub hl [1, 2, 3, 0] rfl) hI hf
          · have hf := ite_f c27 hf
            refine lv_bipush (v := 100) hx hb dX1_wrongHere_53 (by decide) ?_
            refine lv_iload_n hx hb dX1_wrongHere_55 rfl (lv_at hl 3 rfl) ?_
            refine lv_iadd hx hb dX1_wrongHere_56 ?_
            cases hf
            exact s_iret hx hb hr hI.2.2 hI.1 hlocks dX1_wrongHere_57
  rw [f_X1_wrongHere] at hf
  refine lv_aload_n hx hb dX1_wrongHere_0 rfl (lv_at hl 0 rfl) ?_
  refine s_get (v := .ref (ad 101)) hx hb hu inU1 hown hK hI (mE hE.1 eC_128) rfl 0 (by decide) u1_127 (fun _ h => h) rfl rfl dX1_wrongHere_1 ?_
  refine s_get (v := .ref (ad 102)) hx hb hu inU4 hown hK hI (mE hE.1 eC_101) rfl 0 (by decide) u1_42 (fun _ h => h) rfl rfl dX1_wrongHere_4 ?_
  refine lv_iload_n hx hb dX1_wrongHere_7 rfl (lv_at hl 1 rfl) ?_
  obtain ⟨h1, hf⟩ := chk_i hf
  refine s_ild hx hb hK hI (mE hE.1 eC_102) (inB_i h1) dX1_wrongHere_8 ?_
  obtain ⟨x2_2, ex2_2, hf⟩ := bnd_i hf
  refine s_nmI ex2_2 ?_
  refine lv_istore_n (lv' := [(2, .int x2_2), (0, .ref (ad 128)), (1, .int x1)]) hx hb dX1_wrongHere_9 rfl hl (by decide) rfl (fun ls hl => ?_)
  refine lv_iconst (v := 0) hx hb dX1_wrongHere_10 (by decide) ?_
  refine lv_istore_n (lv' := [(3, .int 0), (2, .int x2_2), (0, .ref (ad 128)), (1, .int x1)]) hx hb dX1_wrongHere_11 rfl hl (by decide) rfl (fun ls hl => ?_)
  exact B12   fuel x2_2 0 H locs ls (lv_sub hl [2, 3, 1, 0] rfl) hI hf
noncomputable def q_X1_weigh_2 (O : MemO) (S : Nat → Nat)  (rec : (Mem × Int32) → Option (Mem)) : (Mem × Int32) → Option (Mem) := fun (G, x1) => (if (G 101 5) ≤ x1 then some G else chk (inB x1 48) (bndO (f_X1_listen G x1 (G 102 x1.toNatClampNeg)) (fun G3 => bndO (O 128 12) (fun e5 => chk (txE S e5) (bndP (f_X9_valueOf G3 S e5 2) (fun G8 v9 => chk (inB x1 48) (bnd (up2 G8 136 x1.toNatClampNeg (if (0 : Int32) < (if v9 < 99 then v9 else 99) then (if v9 < 99 then v9 else 99) else 0)) (fun G12 => bnd (x1 + 1) (fun x1_13 => rec (G12, x1_13))))))))))
noncomputable def f_X1_weigh (G : Mem) (O : MemO) (S : Nat → Nat)  : Option (Mem) := iter (q_X1_weigh_2 O S) fuel (G, 0)
theorem kyX1_weigh : Ky yX1_weigh cX1_weigh 2 none 0 := ⟨u4_49, u1_5, by decide, by decide, by decide, by decide +kernel⟩
set_option maxHeartbeats 4000000 in
set_option maxRecDepth 100000 in
theorem c_X1_weigh (l : Launch) (D : va_G) (K : List Nat) (sh : Nat → Ent) (ad : Nat → Nat) (cy : Nat → ClassId) (X : va_W) (B : State → Prop) (hcl : Bcl (AS K ad X) B) (S : Nat → Nat) (hE : HC S K sh) (G : Mem) (L : MemL) (O : MemO)  {Gz : Mem} (hf : f_X1_weigh G O S = some Gz) : Met l yX1_weigh (wsU yX1_weigh cX1_weigh 2 none) (rmX 3 0 0) (va_Pc [.ref (ad 128)] (PS D K sh ad cy X B G L O)) (QV (AS K ad X) (PH D K sh ad cy X Gz L O)) 0 0 (AS K ad X) := by
  refine s_met (by decide) (Nat.le_of_ble_eq_true rfl) ?_
  intro p e s m args below meth c ls H locs E hK hBs hnm hI hl
  have hl : lv_has ls 2 [(0, .ref (ad 128))] := hl
  have E : Cx p s m args meth c RX1 cX1_weigh 2 none := E
  obtain ⟨hx, hb, hr, hml, hown, hu, hlocks⟩ := id E
  have B2 : ∀   (n : Nat) (G : Mem) (x1 : Int32) (H : Heap) (locs : List Loc) (ls : Array Slot), lv_has ls 2 [(0, .ref (ad 128)), (1, .int x1)] → IS D K sh ad cy X (AS K ad X) s.heap H locs G L O → iter (q_X1_weigh_2 O S) n (G, x1) = some Gz → W p l e (rmX 3 0 0) s m args below meth c H locs 0 0 (MQ below (QV (AS K ad X) (PH D K sh ad cy X Gz L O)) args s 0 0 (AS K ad X)) (F0 m 2 ls []) := by
    intro n
    induction n with
    | zero => intro G x1 H locs ls hl hI hf; exact iter_0 hf
    | succ n ih =>
      intro G x1 H locs ls hl hI hf
      have hf : q_X1_weigh_2 O S (iter (q_X1_weigh_2 O S) n) (G, x1) = some Gz := hf
      rw [q_X1_weigh_2] at hf
      refine lv_iload_n hx hb dX1_weigh_2 rfl (lv_at hl 1 rfl) ?_
      refine lv_aload_n hx hb dX1_weigh_3 rfl (lv_at hl 0 rfl) ?_
      refine s_get (v := .ref (ad 101)) hx hb hu inU1 hown hK hI (mE hE.1 eC_128) rfl 0 (by decide) u1_127 (fun _ h => h) rfl rfl dX1_weigh_4 ?_
      refine s_get (v := .int (G 101 5)) hx hb hu inU4 hown hK hI (mE hE.1 eC_101) rfl 5 (by decide) u1_57 (fun _ h => h) rfl rfl dX1_weigh_7 ?_
      refine lv_icmp_ge (tgt := 60) hx hb dX1_weigh_10 (by decide) (fun c1 => ?_) (fun c1 => ?_)
      · have hf := ite_t c1 hf
        cases hf
        exact s_vret hx hb hr hI.2.2 hI.1 hlocks dX1_weigh_60
      · have hf := ite_f c1 hf
        refine lv_aload_n hx hb dX1_weigh_13 rfl (lv_at hl 0 rfl) ?_
        refine lv_iload_n hx hb dX1_weigh_14 rfl (lv_at hl 1 rfl) ?_
        refine lv_aload_n hx hb dX1_weigh_15 rfl (lv_at hl 0 rfl) ?_
        refine s_get (v := .ref (ad 101)) hx hb hu inU1 hown hK hI (mE hE.1 eC_128) rfl 0 (by decide) u1_127 (fun _ h => h) rfl rfl dX1_weigh_16 ?_
        refine s_get (v := .ref (ad 102)) hx hb hu inU4 hown hK hI (mE hE.1 eC_101) rfl 0 (by decide) u1_42 (fun _ h => h) rfl rfl dX1_weigh_19 ?_
        refine lv_iload_n hx hb dX1_weigh_22 rfl (lv_at hl 1 rfl) ?_
        obtain ⟨h2, hf⟩ := chk_i hf
        refine s_ild hx hb hK hI (mE hE.1 eC_102) (inB_i h2) dX1_weigh_23 ?_
        obtain ⟨G3, h4, hf⟩ := bndO_i hf
        refine s_afV hI (s_runV (rest := []) (As := [.int x1, .int (G 102 x1.toNatClampNeg)]) (np := 2) E hK hI (s_B hcl hBs hI) hcl.2 (mE hE.1 eC_128) rfl (c_X1_listen l D K sh ad cy X B hcl S hE G L O x1 (G 102 x1.toNatClampNeg) h4) kyX1_listen u4_1 u4_3 up_21 (by decide) rfl hl.1 rfl (Nat.le_of_ble_eq_true rfl) ⟨Nat.zero_le _, Nat.zero_le _⟩ dX1_weigh_24) (fun H locs hI => ?_)
        refine lv_aload_n hx hb dX1_weigh_27 rfl (lv_at hl 0 rfl) ?_
        refine s_get (v := .ref (ad 136)) hx hb hu inU1 hown hK hI (mE hE.1 eC_128) rfl 9 (by decide) u1_138 (fun _ h => h) rfl rfl dX1_weigh_28 ?_
        refine lv_iload_n hx hb dX1_weigh_31 rfl (lv_at hl 1 rfl) ?_
        refine lv_iconst (v := 0) hx hb dX1_weigh_32 (by decide) ?_
        refine lv_bipush (v := 99) hx hb dX1_weigh_33 (by decide) ?_
        refine lv_aload_n hx hb dX1_weigh_35 rfl (lv_at hl 0 rfl) ?_
        obtain ⟨e5, h6, hf⟩ := bndO_i hf
        obtain ⟨h7, hf⟩ := chk_i hf
        refine s_get (v := va_rf (Option.map ad (O 128 12))) hx hb hu inU1 hown hK hI (mE hE.1 eC_128) rfl 12 (by decide) u1_141 (fun _ h => h) rfl rfl dX1_weigh_36 ?_
        refine s_nmO h6 ?_
        refine lv_iconst (v := 2) hx hb dX1_weigh_39 (by decide) ?_
        refine lv_aload_n hx hb dX1_weigh_40 rfl (lv_at hl 0 rfl) ?_
        refine s_get (v := .ref (ad 129)) hx hb hu inU1 hown hK hI (mE hE.1 eC_128) rfl 2 (by decide) u1_129 (fun _ h => h) rfl rfl dX1_weigh_41 ?_
        obtain ⟨G8, v9, h10, hf⟩ := bndP_i hf
        refine s_afI hI (s_runV (rest := [.int 99, .int 0, .int x1, .ref (ad 136)]) (As := [.int 2, .ref (ad 129)]) (np := 2) E hK hI (s_B hcl hBs hI) hcl.2 (hE.2.2 _ h7).1 rfl (c_X9_valueOf l D K sh ad cy X B hcl S hE e5 h7 G3 L O 2 h10) kyX9_valueOf u4_5 u4_6 u4_7 (by decide) rfl hl.1 rfl (Nat.le_of_ble_eq_true rfl) ⟨Nat.zero_le _, Nat.zero_le _⟩ dX1_weigh_44) (fun H locs hI => ?_)
        refine s_mmin (rest := [.int 0, .int x1, .ref (ad 136)]) E hl.1 u4_50 u2_32 u1_11 u2_33 (by decide) (Nat.le_of_ble_eq_true rfl) ⟨Nat.zero_le _, Nat.zero_le _⟩ dX1_weigh_47 ?_
        refine s_mmax (rest := [.int x1, .ref (ad 136)]) E hl.1 u4_51 u2_59 u1_11 u2_60 (by decide) (Nat.le_of_ble_eq_true rfl) ⟨Nat.zero_le _, Nat.zero_le _⟩ dX1_weigh_50 ?_
        obtain ⟨h11, hf⟩ := chk_i hf
        obtain ⟨G12, eG12, hf⟩ := bnd_i hf
        refine s_ist hx hb hK hI (mE hE.1 eC_136) (inB_i h11) eG12 dX1_weigh_53 (fun H locs hI => ?_)
        obtain ⟨x1_13, ex1_13, hf⟩ := bnd_i hf
        refine lv_iinc (v := x1_13) (lv' := [(1, .int x1_13), (0, .ref (ad 128))]) hx hb dX1_weigh_54 hl (k := 1) rfl (by rw [ex1_13]; rfl) (by decide) rfl (fun ls hl => ?_)
        refine lv_goto (tgt := 2) hx hb dX1_weigh_57 (by decide) ?_
        exact ih G12 x1_13 H locs ls (lv_sub hl [1, 0] rfl) hI hf
  rw [f_X1_weigh] at hf
  refine lv_iconst (v := 0) hx hb dX1_weigh_0 (by decide) ?_
  refine lv_istore_n (lv' := [(1, .int 0), (0, .ref (ad 128))]) hx hb dX1_weigh_1 rfl hl (by decide) rfl (fun ls hl => ?_)
  exact B2   fuel G 0 H locs ls (lv_sub hl [1, 0] rfl) hI hf
noncomputable def q_X1_badOfAll_36 (L : MemL) (O : MemO) (S : Nat → Nat) (k8 : (Mem × Int64 × Int32) → Option (Mem × Int64)) (rec : (Mem × Int64 × Int32 × Int32) → Option (Mem × Int64)) : (Mem × Int64 × Int32 × Int32) → Option (Mem × Int64) := fun (G, w1, x3, x4) => (if 4 ≤ x4 then bnd (x3 + 1) (fun x3_8 => k8 (G, w1, x3_8)) else bndO (f_X1_isHeard G x4) (fun v9 => (if v9 = 0 then bnd (x4 + 1) (fun x4_12 => rec (G, w1, x3, x4_12)) else chk (inB x3 48) (chk (inB x4 4) (bndO (f_X1_howMany G x4) (fun v15 => bnd (w1 + (((G 136 x3.toNatClampNeg) * ((G 105 x4.toNatClampNeg) - v15)).toInt64)) (fun w1_17 => bnd (x4 + 1) (fun x4_18 => rec (G, w1_17, x3, x4_18)))))))))
noncomputable def q_X1_badOfAll_8 (L : MemL) (O : MemO) (S : Nat → Nat)  (rec : (Mem × Int64 × Int32) → Option (Mem × Int64)) : (Mem × Int64 × Int32) → Option (Mem × Int64) := fun (G, w1, x3) => (if (G 101 5) ≤ x3 then some (G, w1) else chk (inB x3 48) (bndO (f_X1_advance G L O S x3 (G 102 x3.toNatClampNeg)) (fun G5 => iter (q_X1_badOfAll_36 L O S rec) fuel (G5, w1, x3, 0))))
noncomputable def f_X1_badOfAll (G : Mem) (L : MemL) (O : MemO) (S : Nat → Nat)  : Option (Mem × Int64) := bndO (f_X1_start G) (fun G1 => iter (q_X1_badOfAll_8 L O S) fuel (G1, 0, 0))
theorem kyX1_badOfAll : Ky yX1_badOfAll cX1_badOfAll 5 (some FieldType.long) 0 := ⟨u4_55, u1_5, by decide, by decide, by decide, by decide +kernel⟩
set_option maxHeartbeats 4000000 in
set_option maxRecDepth 100000 in
theorem c_X1_badOfAll (l : Launch) (D : va_G) (K : List Nat) (sh : Nat → Ent) (ad : Nat → Nat) (cy : Nat → ClassId) (X : va_W) (B : State → Prop) (hcl : Bcl (AS K ad X) B) (S : Nat → Nat) (hE : HC S K sh) (G : Mem) (L : MemL) (O : MemO)  {Gz : Mem} {vz : Int64} (hf : f_X1_badOfAll G L O S = some (Gz, vz)) : Met l yX1_badOfAll (wsU yX1_badOfAll cX1_badOfAll 5 (some FieldType.long)) (rmX 7 0 0) (va_Pc [.ref (ad 128)] (PS D K sh ad cy X B G L O)) (QL (AS K ad X) (PH D K sh ad cy X Gz L O) vz) 0 0 (AS K ad X) := by
  refine s_met (by decide) (Nat.le_of_ble_eq_true rfl) ?_
  intro p e s m args below meth c ls H locs E hK hBs hnm hI hl
  have hl : lv_has ls 5 [(0, .ref (ad 128))] := hl
  have E : Cx p s m args meth c RX1 cX1_badOfAll 5 (some FieldType.long) := E
  obtain ⟨hx, hb, hr, hml, hown, hu, hlocks⟩ := id E
  have B36 : ∀ (k8 : (Mem × Int64 × Int32) → Option (Mem × Int64)) (hk8 : ∀ (G : Mem) (w1 : Int64) (x3 : Int32) (H : Heap) (locs : List Loc) (ls : Array Slot), lv_has ls 5 [(0, .ref (ad 128)), (1, .long w1), (3, .int x3)] → IS D K sh ad cy X (AS K ad X) s.heap H locs G L O → k8 (G, w1, x3) = some (Gz, vz) → W p l e (rmX 7 0 0) s m args below meth c H locs 0 0 (MQ below (QL (AS K ad X) (PH D K sh ad cy X Gz L O) vz) args s 0 0 (AS K ad X)) (F0 m 8 ls [])) (n : Nat) (G : Mem) (w1 : Int64) (x3 : Int32) (x4 : Int32) (H : Heap) (locs : List Loc) (ls : Array Slot), lv_has ls 5 [(0, .ref (ad 128)), (1, .long w1), (3, .int x3), (4, .int x4)] → IS D K sh ad cy X (AS K ad X) s.heap H locs G L O → iter (q_X1_badOfAll_36 L O S k8) n (G, w1, x3, x4) = some (Gz, vz) → W p l e (rmX 7 0 0) s m args below meth c H locs 0 0 (MQ below (QL (AS K ad X) (PH D K sh ad cy X Gz L O) vz) args s 0 0 (AS K ad X)) (F0 m 36 ls []) := by
    intro k8 hk8 n
    induction n with
    | zero => intro G w1 x3 x4 H locs ls hl hI hf; exact iter_0 hf
    | succ n ih =>
      intro G w1 x3 x4 H locs ls hl hI hf
      have hf : q_X1_badOfAll_36 L O S k8 (iter (q_X1_badOfAll_36 L O S k8) n) (G, w1, x3, x4) = some (Gz, vz) := hf
      rw [q_X1_badOfAll_36] at hf
      refine lv_iload hx hb dX1_badOfAll_36 (lv_at hl 3 rfl) ?_
      refine lv_iconst (v := 4) hx hb dX1_badOfAll_38 (by decide) ?_
      refine lv_icmp_ge (tgt := 85) hx hb dX1_badOfAll_39 (by decide) (fun c7 => ?_) (fun c7 => ?_)
      · have hf := ite_t c7 hf
        obtain ⟨x3_8, ex3_8, hf⟩ := bnd_i hf
        refine lv_iinc (v := x3_8) (lv' := [(3, .int x3_8), (0, .ref (ad 128)), (1, .long w1), (4, .int x4)]) hx hb dX1_badOfAll_85 hl (k := 2) rfl (by rw [ex3_8]; rfl) (by decide) rfl (fun ls hl => ?_)
        refine lv_goto (tgt := 8) hx hb dX1_badOfAll_88 (by decide) ?_
        exact hk8 G w1 x3_8 H locs ls (lv_sub hl [1, 2, 0] rfl) hI hf
      · have hf := ite_f c7 hf
        refine lv_aload_n hx hb dX1_badOfAll_42 rfl (lv_at hl 0 rfl) ?_
        refine lv_iload hx hb dX1_badOfAll_43 (lv_at hl 3 rfl) ?_
        obtain ⟨v9, h10, hf⟩ := bndO_i hf
        refine s_afI hI (s_runV (rest := []) (As := [.int x4]) (np := 1) E hK hI (s_B hcl hBs hI) hcl.2 (mE hE.1 eC_128) rfl (c_X1_isHeard l D K sh ad cy X B hcl S hE G L O x4 h10) kyX1_isHeard u4_32 u4_34 up_22 (by decide) rfl hl.1 rfl (Nat.le_of_ble_eq_true rfl) ⟨Nat.zero_le _, Nat.zero_le _⟩ dX1_badOfAll_45) (fun H locs hI => ?_)
        refine lv_if_eq (tgt := 79) hx hb dX1_badOfAll_48 (by decide) (fun c11 => ?_) (fun c11 => ?_)
        · have hf := ite_t c11 hf
          obtain ⟨x4_12, ex4_12, hf⟩ := bnd_i hf
          refine lv_iinc (v := x4_12) (lv' := [(4, .int x4_12), (0, .ref (ad 128)), (1, .long w1), (3, .int x3)]) hx hb dX1_badOfAll_79 hl (k := 3) rfl (by rw [ex4_12]; rfl) (by decide) rfl (fun ls hl => ?_)
          refine lv_goto (tgt := 36) hx hb dX1_badOfAll_82 (by decide) ?_
          exact ih G w1 x3 x4_12 H locs ls (lv_sub hl [1, 2, 3, 0] rfl) hI hf
        · have hf := ite_f c11 hf
          refine lv_lload_n hx hb dX1_badOfAll_51 rfl (lv_at hl 1 rfl) ?_
          refine lv_aload_n hx hb dX1_badOfAll_52 rfl (lv_at hl 0 rfl) ?_
          refine s_get (v := .ref (ad 136)) hx hb hu inU1 hown hK hI (mE hE.1 eC_128) rfl 9 (by decide) u1_138 (fun _ h => h) rfl rfl dX1_badOfAll_53 ?_
          refine lv_iload_n hx hb dX1_badOfAll_56 rfl (lv_at hl 2 rfl) ?_
          obtain ⟨h13, hf⟩ := chk_i hf
          refine s_ild hx hb hK hI (mE hE.1 eC_136) (inB_i h13) dX1_badOfAll_57 ?_
          refine lv_aload_n hx hb dX1_badOfAll_58 rfl (lv_at hl 0 rfl) ?_
          refine s_get (v := .ref (ad 101)) hx hb hu inU1 hown hK hI (mE hE.1 eC_128) rfl 0 (by decide) u1_127 (fun _ h => h) rfl rfl dX1_badOfAll_59 ?_
          refine s_get (v := .ref (ad 105)) hx hb hu inU4 hown hK hI (mE hE.1 eC_101) rfl 3 (by decide) u1_51 (fun _ h => h) rfl rfl dX1_badOfAll_62 ?_
          refine lv_iload hx hb dX1_badOfAll_65 (lv_at hl 3 rfl) ?_
          obtain ⟨h14, hf⟩ := chk_i hf
          refine s_ild hx hb hK hI (mE hE.1 eC_105) (inB_i h14) dX1_badOfAll_67 ?_
          refine lv_aload_n hx hb dX1_badOfAll_68 rfl (lv_at hl 0 rfl) ?_
          refine lv_iload hx hb dX1_badOfAll_69 (lv_at hl 3 rfl) ?_
          obtain ⟨v15, h16, hf⟩ := bndO_i hf
          refine s_afI hI (s_runV (rest := [.int (G 105 x4.toNatClampNeg), .int (G 136 x3.toNatClampNeg), .long w1]) (As := [.int x4]) (np := 1) E hK hI (s_B hcl hBs hI) hcl.2 (mE hE.1 eC_128) rfl (c_X1_howMany l D K sh ad cy X B hcl S hE G L O x4 h16) kyX1_howMany u4_15 u4_16 u4_17 (by decide) rfl hl.1 rfl (Nat.le_of_ble_eq_true rfl) ⟨Nat.zero_le _, Nat.zero_le _⟩ dX1_badOfAll_71) (fun H locs hI => ?_)
          refine lv_isub hx hb dX1_badOfAll_74 ?_
          refine lv_imul hx hb dX1_badOfAll_75 ?_
          refine lv_i2l (v := (((G 136 x3.toNatClampNeg) * ((G 105 x4.toNatClampNeg) - v15)).toInt64)) hx hb dX1_badOfAll_76 rfl ?_
          refine lv_ladd hx hb dX1_badOfAll_77 ?_
          obtain ⟨w1_17, ew1_17, hf⟩ := bnd_i hf
          refine s_nmL ew1_17 ?_
          refine lv_lstore_n (lv' := [(1, .long w1_17), (0, .ref (ad 128)), (3, .int x3), (4, .int x4)]) hx hb dX1_badOfAll_78 rfl hl (by decide) rfl (fun ls hl => ?_)
          obtain ⟨x4_18, ex4_18, hf⟩ := bnd_i hf
          refine lv_iinc (v := x4_18) (lv' := [(4, .int x4_18), (1, .long w1_17), (0, .ref (ad 128)), (3, .int x3)]) hx hb dX1_badOfAll_79 hl (k := 3) rfl (by rw [ex4_18]; rfl) (by decide) rfl (fun ls hl => ?_)
          refine lv_goto (tgt := 36) hx hb dX1_badOfAll_82 (by decide) ?_
          exact ih G w1_17 x3 x4_18 H locs ls (lv_sub hl [2, 1, 3, 0] rfl) hI hf
  have B8 : ∀   (n : Nat) (G : Mem) (w1 : Int64) (x3 : Int32) (H : Heap) (locs : List Loc) (ls : Array Slot), lv_has ls 5 [(0, .ref (ad 128)), (1, .long w1), (3, .int x3)] → IS D K sh ad cy X (AS K ad X) s.heap H locs G L O → iter (q_X1_badOfAll_8 L O S) n (G, w1, x3) = some (Gz, vz) → W p l e (rmX 7 0 0) s m args below meth c H locs 0 0 (MQ below (QL (AS K ad X) (PH D K sh ad cy X Gz L O) vz) args s 0 0 (AS K ad X)) (F0 m 8 ls []) := by
    intro n
    induction n with
    | zero => intro G w1 x3 H locs ls hl hI hf; exact iter_0 hf
    | succ n ih =>
      intro G w1 x3 H locs ls hl hI hf
      have hf : q_X1_badOfAll_8 L O S (iter (q_X1_badOfAll_8 L O S) n) (G, w1, x3) = some (Gz, vz) := hf
      rw [q_X1_badOfAll_8] at hf
      refine lv_iload_n hx hb dX1_badOfAll_8 rfl (lv_at hl 2 rfl) ?_
      refine lv_aload_n hx hb dX1_badOfAll_9 rfl (lv_at hl 0 rfl) ?_
      refine s_get (v := .ref (ad 101)) hx hb hu inU1 hown hK hI (mE hE.1 eC_128) rfl 0 (by decide) u1_127 (fun _ h => h) rfl rfl dX1_badOfAll_10 ?_
      refine s_get (v := .int (G 101 5)) hx hb hu inU4 hown hK hI (mE hE.1 eC_101) rfl 5 (by decide) u1_57 (fun _ h => h) rfl rfl dX1_badOfAll_13 ?_
      refine lv_icmp_ge (tgt := 91) hx hb dX1_badOfAll_16 (by decide) (fun c3 => ?_) (fun c3 => ?_)
      · have hf := ite_t c3 hf
        refine lv_lload_n hx hb dX1_badOfAll_91 rfl (lv_at hl 1 rfl) ?_
        cases hf
        exact s_lret hx hb hr hI.2.2 hI.1 hlocks dX1_badOfAll_92
      · have hf := ite_f c3 hf
        refine lv_aload_n hx hb dX1_badOfAll_19 rfl (lv_at hl 0 rfl) ?_
        refine lv_iload_n hx hb dX1_badOfAll_20 rfl (lv_at hl 2 rfl) ?_
        refine lv_aload_n hx hb dX1_badOfAll_21 rfl (lv_at hl 0 rfl) ?_
        refine s_get (v := .ref (ad 101)) hx hb hu inU1 hown hK hI (mE hE.1 eC_128) rfl 0 (by decide) u1_127 (fun _ h => h) rfl rfl dX1_badOfAll_22 ?_
        refine s_get (v := .ref (ad 102)) hx hb hu inU4 hown hK hI (mE hE.1 eC_101) rfl 0 (by decide) u1_42 (fun _ h => h) rfl rfl dX1_badOfAll_25 ?_
        refine lv_iload_n hx hb dX1_badOfAll_28 rfl (lv_at hl 2 rfl) ?_
        obtain ⟨h4, hf⟩ := chk_i hf
        refine s_ild hx hb hK hI (mE hE.1 eC_102) (inB_i h4) dX1_badOfAll_29 ?_
        obtain ⟨G5, h6, hf⟩ := bndO_i hf
        refine s_afV hI (s_runV (rest := []) (As := [.int x3, .int (G 102 x3.toNatClampNeg)]) (np := 2) E hK hI (s_B hcl hBs hI) hcl.2 (mE hE.1 eC_128) rfl (c_X1_advance l D K sh ad cy X B hcl S hE G L O x3 (G 102 x3.toNatClampNeg) h6) kyX1_advance u4_57 u3_216 u3_217 (by decide) rfl hl.1 rfl (Nat.le_of_ble_eq_true rfl) ⟨Nat.zero_le _, Nat.zero_le _⟩ dX1_badOfAll_30) (fun H locs hI => ?_)
        refine lv_iconst (v := 0) hx hb dX1_badOfAll_33 (by decide) ?_
        refine lv_istore (lv' := [(4, .int 0), (0, .ref (ad 128)), (1, .long w1), (3, .int x3)]) hx hb dX1_badOfAll_34 hl (by decide) rfl (fun ls hl => ?_)
        exact B36 _ ih fuel G5 w1 x3 0 H locs ls (lv_sub hl [1, 2, 3, 0] rfl) hI hf
  rw [f_X1_badOfAll] at hf
  refine lv_aload_n hx hb dX1_badOfAll_0 rfl (lv_at hl 0 rfl) ?_
  obtain ⟨G1, h2, hf⟩ := bndO_i hf
  refine s_afV hI (s_runV (rest := []) (As := []) (np := 0) E hK hI (s_B hcl hBs hI) hcl.2 (mE hE.1 eC_128) rfl (c_X1_start l D K sh ad cy X B hcl S hE G L O  h2) kyX1_start u4_56 u3_211 u3_212 (by decide) rfl hl.1 rfl (Nat.le_of_ble_eq_true rfl) ⟨Nat.zero_le _, Nat.zero_le _⟩ dX1_badOfAll_1) (fun H locs hI => ?_)
  refine lv_lconst (v := 0) hx hb dX1_badOfAll_4 (by decide) ?_
  refine lv_lstore_n (lv' := [(1, .long 0), (0, .ref (ad 128))]) hx hb dX1_badOfAll_5 rfl hl (by decide) rfl (fun ls hl => ?_)
  refine lv_iconst (v := 0) hx hb dX1_badOfAll_6 (by decide) ?_
  refine lv_istore_n (lv' := [(3, .int 0), (1, .long 0), (0, .ref (ad 128))]) hx hb dX1_badOfAll_7 rfl hl (by decide) rfl (fun ls hl => ?_)
  exact B8   fuel G1 0 0 H locs ls (lv_sub hl [2, 1, 0] rfl) hI hf
noncomputable def f_X1_breathesBehind (L : MemL) (x1 : Int32) (x2 : Int32) : Option (Int32) := chk (inB x1 10) ((if (lg_cmp ((L 133 x1.toNatClampNeg) >>> (x2.toInt64 &&& 63)) 1) ≤ 0 then some 0 else some 1))
theorem kyX1_breathesBehind : Ky yX1_breathesBehind cX1_breathesBehind 3 (some FieldType.boolean) 2 := ⟨u4_104, u1_5, by decide, by decide, by decide, by decide +kernel⟩
set_option maxHeartbeats 4000000 in
set_option maxRecDepth 100000 in
theorem c_X1_breathesBehind (l : Launch) (D : va_G) (K : List Nat) (sh : Nat → Ent) (ad : Nat → Nat) (cy : Nat → ClassId) (X : va_W) (B : State → Prop) (hcl : Bcl (AS K ad X) B) (S : Nat → Nat) (hE : HC S K sh) (G : Mem) (L : MemL) (O : MemO) (x1 : Int32) (x2 : Int32)  {vz : Int32} (hf : f_X1_breathesBehind L x1 x2 = some vz) : Met l yX1_breathesBehind (wsU yX1_breathesBehind cX1_breathesBehind 3 (some FieldType.boolean)) (rmX 1 0 0) (va_Pc [.ref (ad 128), .int x1, .int x2] (PS D K sh ad cy X B G L O)) (QI (AS K ad X) (PH D K sh ad cy X G L O) vz) 0 0 (AS K ad X) := by
  refine s_met (by decide) (Nat.le_of_ble_eq_true rfl) ?_
  intro p e s m args below meth c ls H locs E hK hBs hnm hI hl
  have hl : lv_has ls 3 [(0, .ref (ad 128)), (1, .int x1), (2, .int x2)] := hl
  have E : Cx p s m args meth c RX1 cX1_breathesBehind 3 (some FieldType.boolean) := E
  obtain ⟨hx, hb, hr, hml, hown, hu, hlocks⟩ := id E
  rw [f_X1_breathesBehind] at hf
  refine lv_aload_n hx hb dX1_breathesBehind_0 rfl (lv_at hl 0 rfl) ?_
  refine s_get (v := .ref (ad 133)) hx hb hu inU1 hown hK hI (mE hE.1 eC_128) rfl 6 (by decide) u1_134 (fun _ h => h) rfl rfl dX1_breathesBehind_1 ?_
  refine lv_iload_n hx hb dX1_breathesBehind_4 rfl (lv_at hl 1 rfl) ?_
  obtain ⟨h1, hf⟩ := chk_i hf
  refine s_lld hx hb hK hI (mE hE.1 eC_133) (inB_i h1) dX1_breathesBehind_5 ?_
  refine lv_iload_n hx hb dX1_breathesBehind_6 rfl (lv_at hl 2 rfl) ?_
  refine lv_lshr (v := ((L 133 x1.toNatClampNeg) >>> (x2.toInt64 &&& 63))) hx hb dX1_breathesBehind_7 rfl ?_
  refine lv_lconst (v := 1) hx hb dX1_breathesBehind_8 (by decide) ?_
  refine W.lcmp hx hb dX1_breathesBehind_9 ?_
  refine lv_if_le (tgt := 17) hx hb dX1_breathesBehind_10 (by decide) (fun c2 => ?_) (fun c2 => ?_)
  · have hf := ite_t c2 hf
    refine lv_iconst (v := 0) hx hb dX1_breathesBehind_17 (by decide) ?_
    cases hf
    exact s_zret rfl hx hb hr hI.2.2 hI.1 hlocks dX1_breathesBehind_18
  · have hf := ite_f c2 hf
    refine lv_iconst (v := 1) hx hb dX1_breathesBehind_13 (by decide) ?_
    refine lv_goto (tgt := 18) hx hb dX1_breathesBehind_14 (by decide) ?_
    cases hf
    exact s_zret rfl hx hb hr hI.2.2 hI.1 hlocks dX1_breathesBehind_18
