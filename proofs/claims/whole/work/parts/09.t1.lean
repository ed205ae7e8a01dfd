noncomputable def f_X5_put (G : Mem) (x1 : Int32) : Option (Mem) := (if 160 ≤ (G 114 2) then some G else chk (inB (G 114 2) 160) (bnd (up2 G 115 (G 114 2).toNatClampNeg (vp_nar .char ((x1.toUInt32 % 65536).toInt32))) (fun G3 => bnd (up2 G3 114 2 ((G3 114 2) + 1)) (fun G4 => some G4))))
theorem kyX5_put : Ky yX5_put cX5_put 2 none 1 := ⟨u2_12, u1_4, by decide, by decide, by decide, by decide +kernel⟩
set_option maxHeartbeats 4000000 in
set_option maxRecDepth 100000 in
theorem c_X5_put (l : Launch) (D : va_G) (K : List Nat) (sh : Nat → Ent) (ad : Nat → Nat) (cy : Nat → ClassId) (X : va_W) (B : State → Prop) (hcl : Bcl (AS K ad X) B) (S : Nat → Nat) (hE : HC S K sh) (G : Mem) (L : MemL) (O : MemO) (x1 : Int32) {Gz : Mem} (hf : f_X5_put G x1 = some Gz) : Met l yX5_put (wsU yX5_put cX5_put 2 none) (rmX 1 0 0) (va_Pc [.ref (ad 114), .int x1] (PS D K sh ad cy X B G L O)) (QV (AS K ad X) (PH D K sh ad cy X Gz L O)) 0 0 (AS K ad X) := by
  refine s_met (by decide) (Nat.le_of_ble_eq_true rfl) ?_
  intro p e s m args below meth c ls H locs E hK hBs hnm hI hl
  have hl : lv_has ls 2 [(0, .ref (ad 114)), (1, .int x1)] := hl
  have E : Cx p s m args meth c RX5 cX5_put 2 none := E
  obtain ⟨hx, hb, hr, hml, hown, hu, hlocks⟩ := id E
  rw [f_X5_put] at hf
  refine lv_aload_n hx hb dX5_put_0 rfl (lv_at hl 0 rfl) ?_
  refine s_get (v := .int (G 114 2)) hx hb hu inU5 hown hK hI (mE hE.1 eC_114) rfl 2 (by decide) u1_91 (fun _ h => h) rfl rfl dX5_put_1 ?_
  refine lv_sipush (v := 160) hx hb dX5_put_4 (by decide) ?_
  refine lv_icmp_ge (tgt := 31) hx hb dX5_put_7 (by decide) (fun c1 => ?_) (fun c1 => ?_)
  · have hf := ite_t c1 hf
    cases hf
    exact s_vret hx hb hr hI.2.2 hI.1 hlocks dX5_put_31
  · have hf := ite_f c1 hf
    refine lv_aload_n hx hb dX5_put_10 rfl (lv_at hl 0 rfl) ?_
    refine s_get (v := .ref (ad 115)) hx hb hu inU5 hown hK hI (mE hE.1 eC_114) rfl 0 (by decide) u1_89 (fun _ h => h) rfl rfl dX5_put_11 ?_
    refine lv_aload_n hx hb dX5_put_14 rfl (lv_at hl 0 rfl) ?_
    refine s_get (v := .int (G 114 2)) hx hb hu inU5 hown hK hI (mE hE.1 eC_114) rfl 2 (by decide) u1_91 (fun _ h => h) rfl rfl dX5_put_15 ?_
    refine lv_iload_n hx hb dX5_put_18 rfl (lv_at hl 1 rfl) ?_
    refine lv_i2c (v := ((x1.toUInt32 % 65536).toInt32)) hx hb dX5_put_19 rfl ?_
    obtain ⟨h2, hf⟩ := chk_i hf
    obtain ⟨G3, eG3, hf⟩ := bnd_i hf
    refine s_cst hx hb hK hI (mE hE.1 eC_115) (inB_i h2) eG3 dX5_put_20 (fun H locs hI => ?_)
    refine lv_aload_n hx hb dX5_put_21 rfl (lv_at hl 0 rfl) ?_
    refine lv_dup hx hb dX5_put_22 rfl ?_
    refine s_get (v := .int (G3 114 2)) hx hb hu inU5 hown hK hI (mE hE.1 eC_114) rfl 2 (by decide) u1_91 (fun _ h => h) rfl rfl dX5_put_23 ?_
    refine lv_iconst (v := 1) hx hb dX5_put_26 (by decide) ?_
    refine lv_iadd hx hb dX5_put_27 ?_
    obtain ⟨G4, eG4, hf⟩ := bnd_i hf
    refine s_put (ty := .int) hx hb hu inU5 tyX5_ok nmX5 hown hK hI (mE hE.1 eC_114) rfl 2 (by decide) u1_91 (fun _ h => h) rfl rfl (tyX5_ok 2 (by decide)) rfl rfl eG4 dX5_put_28 (fun H locs hI => ?_)
    cases hf
    exact s_vret hx hb hr hI.2.2 hI.1 hlocks dX5_put_31
noncomputable def f_X5_clear (G : Mem)  : Option (Mem) := bnd (up2 G 114 2 0) (fun G1 => some G1)
theorem kyX5_clear : Ky yX5_clear cX5_clear 1 none 0 := ⟨u2_174, u1_4, by decide, by decide, by decide, by decide +kernel⟩
set_option maxHeartbeats 4000000 in
set_option maxRecDepth 100000 in
theorem c_X5_clear (l : Launch) (D : va_G) (K : List Nat) (sh : Nat → Ent) (ad : Nat → Nat) (cy : Nat → ClassId) (X : va_W) (B : State → Prop) (hcl : Bcl (AS K ad X) B) (S : Nat → Nat) (hE : HC S K sh) (G : Mem) (L : MemL) (O : MemO)  {Gz : Mem} (hf : f_X5_clear G = some Gz) : Met l yX5_clear (wsU yX5_clear cX5_clear 1 none) (rmX 1 0 0) (va_Pc [.ref (ad 114)] (PS D K sh ad cy X B G L O)) (QV (AS K ad X) (PH D K sh ad cy X Gz L O)) 0 0 (AS K ad X) := by
  refine s_met (by decide) (Nat.le_of_ble_eq_true rfl) ?_
  intro p e s m args below meth c ls H locs E hK hBs hnm hI hl
  have hl : lv_has ls 1 [(0, .ref (ad 114))] := hl
  have E : Cx p s m args meth c RX5 cX5_clear 1 none := E
  obtain ⟨hx, hb, hr, hml, hown, hu, hlocks⟩ := id E
  rw [f_X5_clear] at hf
  refine lv_aload_n hx hb dX5_clear_0 rfl (lv_at hl 0 rfl) ?_
  refine lv_iconst (v := 0) hx hb dX5_clear_1 (by decide) ?_
  obtain ⟨G1, eG1, hf⟩ := bnd_i hf
  refine s_put (ty := .int) hx hb hu inU5 tyX5_ok nmX5 hown hK hI (mE hE.1 eC_114) rfl 2 (by decide) u1_91 (fun _ h => h) rfl rfl (tyX5_ok 2 (by decide)) rfl rfl eG1 dX5_clear_2 (fun H locs hI => ?_)
  cases hf
  exact s_vret hx hb hr hI.2.2 hI.1 hlocks dX5_clear_5
noncomputable def f_X5_emit (G : Mem) (x1 : Int32) (x2 : Int32) : Option (Mem × Int32) := (if 160 ≤ (G 114 7) then some (G, 1) else chk (inB (G 114 7) 160) (bnd (up2 G 116 (G 114 7).toNatClampNeg (x1 + (64 * x2))) (fun G3 => bnd (up2 G3 114 7 ((G3 114 7) + 1)) (fun G4 => some (G4, 1)))))
theorem kyX5_emit : Ky yX5_emit cX5_emit 3 (some FieldType.boolean) 2 := ⟨u2_123, u1_4, by decide, by decide, by decide, by decide +kernel⟩
set_option maxHeartbeats 4000000 in
set_option maxRecDepth 100000 in
theorem c_X5_emit (l : Launch) (D : va_G) (K : List Nat) (sh : Nat → Ent) (ad : Nat → Nat) (cy : Nat → ClassId) (X : va_W) (B : State → Prop) (hcl : Bcl (AS K ad X) B) (S : Nat → Nat) (hE : HC S K sh) (G : Mem) (L : MemL) (O : MemO) (x1 : Int32) (x2 : Int32) {Gz : Mem} {vz : Int32} (hf : f_X5_emit G x1 x2 = some (Gz, vz)) : Met l yX5_emit (wsU yX5_emit cX5_emit 3 (some FieldType.boolean)) (rmX 1 0 0) (va_Pc [.ref (ad 114), .int x1, .int x2] (PS D K sh ad cy X B G L O)) (QI (AS K ad X) (PH D K sh ad cy X Gz L O) vz) 0 0 (AS K ad X) := by
  refine s_met (by decide) (Nat.le_of_ble_eq_true rfl) ?_
  intro p e s m args below meth c ls H locs E hK hBs hnm hI hl
  have hl : lv_has ls 3 [(0, .ref (ad 114)), (1, .int x1), (2, .int x2)] := hl
  have E : Cx p s m args meth c RX5 cX5_emit 3 (some FieldType.boolean) := E
  obtain ⟨hx, hb, hr, hml, hown, hu, hlocks⟩ := id E
  rw [f_X5_emit] at hf
  refine lv_aload_n hx hb dX5_emit_0 rfl (lv_at hl 0 rfl) ?_
  refine s_get (v := .int (G 114 7)) hx hb hu inU5 hown hK hI (mE hE.1 eC_114) rfl 7 (by decide) u1_98 (fun _ h => h) rfl rfl dX5_emit_1 ?_
  refine lv_sipush (v := 160) hx hb dX5_emit_4 (by decide) ?_
  refine lv_icmp_ge (tgt := 35) hx hb dX5_emit_7 (by decide) (fun c1 => ?_) (fun c1 => ?_)
  · have hf := ite_t c1 hf
    refine lv_iconst (v := 1) hx hb dX5_emit_35 (by decide) ?_
    cases hf
    exact s_zret rfl hx hb hr hI.2.2 hI.1 hlocks dX5_emit_36
  · have hf := ite_f c1 hf
    refine lv_aload_n hx hb dX5_emit_10 rfl (lv_at hl 0 rfl) ?_
    refine s_get (v := .ref (ad 116)) hx hb hu inU5 hown hK hI (mE hE.1 eC_114) rfl 1 (by decide) u1_90 (fun _ h => h) rfl rfl dX5_emit_11 ?_
    refine lv_aload_n hx hb dX5_emit_14 rfl (lv_at hl 0 rfl) ?_
    refine s_get (v := .int (G 114 7)) hx hb hu inU5 hown hK hI (mE hE.1 eC_114) rfl 7 (by decide) u1_98 (fun _ h => h) rfl rfl dX5_emit_15 ?_
    refine lv_iload_n hx hb dX5_emit_18 rfl (lv_at hl 1 rfl) ?_
    refine lv_bipush (v := 64) hx hb dX5_emit_19 (by decide) ?_
    refine lv_iload_n hx hb dX5_emit_21 rfl (lv_at hl 2 rfl) ?_
    refine lv_imul hx hb dX5_emit_22 ?_
    refine lv_iadd hx hb dX5_emit_23 ?_
    obtain ⟨h2, hf⟩ := chk_i hf
    obtain ⟨G3, eG3, hf⟩ := bnd_i hf
    refine s_ist hx hb hK hI (mE hE.1 eC_116) (inB_i h2) eG3 dX5_emit_24 (fun H locs hI => ?_)
    refine lv_aload_n hx hb dX5_emit_25 rfl (lv_at hl 0 rfl) ?_
    refine lv_dup hx hb dX5_emit_26 rfl ?_
    refine s_get (v := .int (G3 114 7)) hx hb hu inU5 hown hK hI (mE hE.1 eC_114) rfl 7 (by decide) u1_98 (fun _ h => h) rfl rfl dX5_emit_27 ?_
    refine lv_iconst (v := 1) hx hb dX5_emit_30 (by decide) ?_
    refine lv_iadd hx hb dX5_emit_31 ?_
    obtain ⟨G4, eG4, hf⟩ := bnd_i hf
    refine s_put (ty := .int) hx hb hu inU5 tyX5_ok nmX5 hown hK hI (mE hE.1 eC_114) rfl 7 (by decide) u1_98 (fun _ h => h) rfl rfl (tyX5_ok 7 (by decide)) rfl rfl eG4 dX5_emit_32 (fun H locs hI => ?_)
    refine lv_iconst (v := 1) hx hb dX5_emit_35 (by decide) ?_
    cases hf
    exact s_zret rfl hx hb hr hI.2.2 hI.1 hlocks dX5_emit_36
noncomputable def j_X5_readNumber_93   (G : Mem) : Option (Mem) := (if ((G 114 3) - (G 114 4)) ≤ 4 then bnd (up2 G 114 5 7) (fun G4 => some G4) else bnd (up2 G 114 5 10) (fun G5 => some G5))
noncomputable def q_X5_readNumber_7   (rec : (Mem × Int32) → Option (Mem)) : (Mem × Int32) → Option (Mem) := fun (G, x1) => (if 160 ≤ x1 then j_X5_readNumber_93 G else (if (G 114 2) ≤ (G 114 3) then j_X5_readNumber_93 G else chk (inB (G 114 3) 160) ((if (G 115 (G 114 3).toNatClampNeg) < 48 then j_X5_readNumber_93 G else chk (inB (G 114 3) 160) ((if 57 < (G 115 (G 114 3).toNatClampNeg) then j_X5_readNumber_93 G else chk (inB (G 114 3) 160) (bnd (up2 G 114 6 (((10 * (G 114 6)) + (G 115 (G 114 3).toNatClampNeg)) - 48)) (fun G12 => bnd (up2 G12 114 3 ((G12 114 3) + 1)) (fun G13 => bnd (x1 + 1) (fun x1_14 => rec (G13, x1_14)))))))))))
noncomputable def f_X5_readNumber (G : Mem)  : Option (Mem) := bnd (up2 G 114 6 0) (fun G1 => iter (q_X5_readNumber_7) fuel (G1, 0))
theorem kyX5_readNumber : Ky yX5_readNumber cX5_readNumber 2 none 0 := ⟨u2_37, u1_4, by decide, by decide, by decide, by decide +kernel⟩
set_option maxHeartbeats 4000000 in
set_option maxRecDepth 100000 in
theorem c_X5_readNumber (l : Launch) (D : va_G) (K : List Nat) (sh : Nat → Ent) (ad : Nat → Nat) (cy : Nat → ClassId) (X : va_W) (B : State → Prop) (hcl : Bcl (AS K ad X) B) (S : Nat → Nat) (hE : HC S K sh) (G : Mem) (L : MemL) (O : MemO)  {Gz : Mem} (hf : f_X5_readNumber G = some Gz) : Met l yX5_readNumber (wsU yX5_readNumber cX5_readNumber 2 none) (rmX 1 0 0) (va_Pc [.ref (ad 114)] (PS D K sh ad cy X B G L O)) (QV (AS K ad X) (PH D K sh ad cy X Gz L O)) 0 0 (AS K ad X) := by
  refine s_met (by decide) (Nat.le_of_ble_eq_true rfl) ?_
  intro p e s m args below meth c ls H locs E hK hBs hnm hI hl
  have hl : lv_has ls 2 [(0, .ref (ad 114))] := hl
  have E : Cx p s m args meth c RX5 cX5_readNumber 2 none := E
  obtain ⟨hx, hb, hr, hml, hown, hu, hlocks⟩ := id E
  have B93 : ∀    (G : Mem) (H : Heap) (locs : List Loc) (ls : Array Slot), lv_has ls 2 [(0, .ref (ad 114))] → IS D K sh ad cy X (AS K ad X) s.heap H locs G L O → j_X5_readNumber_93 G = some Gz → W p l e (rmX 1 0 0) s m args below meth c H locs 0 0 (MQ below (QV (AS K ad X) (PH D K sh ad cy X Gz L O)) args s 0 0 (AS K ad X)) (F0 m 93 ls []) := by
    intro  G H locs ls hl hI hf
    rw [j_X5_readNumber_93] at hf
    refine lv_aload_n hx hb dX5_readNumber_93 rfl (lv_at hl 0 rfl) ?_
    refine lv_aload_n hx hb dX5_readNumber_94 rfl (lv_at hl 0 rfl) ?_
    refine s_get (v := .int (G 114 3)) hx hb hu inU5 hown hK hI (mE hE.1 eC_114) rfl 3 (by decide) u1_93 (fun _ h => h) rfl rfl dX5_readNumber_95 ?_
    refine lv_aload_n hx hb dX5_readNumber_98 rfl (lv_at hl 0 rfl) ?_
    refine s_get (v := .int (G 114 4)) hx hb hu inU5 hown hK hI (mE hE.1 eC_114) rfl 4 (by decide) u1_95 (fun _ h => h) rfl rfl dX5_readNumber_99 ?_
    refine lv_isub hx hb dX5_readNumber_102 ?_
    refine lv_iconst (v := 4) hx hb dX5_readNumber_103 (by decide) ?_
    refine lv_icmp_le (tgt := 112) hx hb dX5_readNumber_104 (by decide) (fun c3 => ?_) (fun c3 => ?_)
    · have hf := ite_t c3 hf
      refine lv_bipush (v := 7) hx hb dX5_readNumber_112 (by decide) ?_
      obtain ⟨G4, eG4, hf⟩ := bnd_i hf
      refine s_put (ty := .int) hx hb hu inU5 tyX5_ok nmX5 hown hK hI (mE hE.1 eC_114) rfl 5 (by decide) u1_96 (fun _ h => h) rfl rfl (tyX5_ok 5 (by decide)) rfl rfl eG4 dX5_readNumber_114 (fun H locs hI => ?_)
      cases hf
      exact s_vret hx hb hr hI.2.2 hI.1 hlocks dX5_readNumber_117
    · have hf := ite_f c3 hf
      refine lv_bipush (v := 10) hx hb dX5_readNumber_107 (by decide) ?_
      refine lv_goto (tgt := 114) hx hb dX5_readNumber_109 (by decide) ?_
      obtain ⟨G5, eG5, hf⟩ := bnd_i hf
      refine s_put (ty := .int) hx hb hu inU5 tyX5_ok nmX5 hown hK hI (mE hE.1 eC_114) rfl 5 (by decide) u1_96 (fun _ h => h) rfl rfl (tyX5_ok 5 (by decide)) rfl rfl eG5 dX5_readNumber_114 (fun H locs hI => ?_)
      cases hf
      exact s_vret hx hb hr hI.2.2 hI.1 hlocks dX5_readNumber_117
  have B7 : ∀   (n : Nat) (G : Mem) (x1 : Int32) (H : Heap) (locs : List Loc) (ls : Array Slot), lv_has ls 2 [(0, .ref (ad 114)), (1, .int x1)] → IS D K sh ad cy X (AS K ad X) s.heap H locs G L O → iter (q_X5_readNumber_7) n (G, x1) = some Gz → W p l e (rmX 1 0 0) s m args below meth c H locs 0 0 (MQ below (QV (AS K ad X) (PH D K sh ad cy X Gz L O)) args s 0 0 (AS K ad X)) (F0 m 7 ls []) := by
    intro n
    induction n with
    | zero => intro G x1 H locs ls hl hI hf; exact iter_0 hf
    | succ n ih =>
      intro G x1 H locs ls hl hI hf
      have hf : q_X5_readNumber_7 (iter (q_X5_readNumber_7) n) (G, x1) = some Gz := hf
      rw [q_X5_readNumber_7] at hf
      refine lv_iload_n hx hb dX5_readNumber_7 rfl (lv_at hl 1 rfl) ?_
      refine lv_sipush (v := 160) hx hb dX5_readNumber_8 (by decide) ?_
      refine lv_icmp_ge (tgt := 93) hx hb dX5_readNumber_11 (by decide) (fun c2 => ?_) (fun c2 => ?_)
      · have hf := ite_t c2 hf
        exact B93    G H locs ls (lv_sub hl [0] rfl) hI hf
      · have hf := ite_f c2 hf
        refine lv_aload_n hx hb dX5_readNumber_14 rfl (lv_at hl 0 rfl) ?_
        refine s_get (v := .int (G 114 3)) hx hb hu inU5 hown hK hI (mE hE.1 eC_114) rfl 3 (by decide) u1_93 (fun _ h => h) rfl rfl dX5_readNumber_15 ?_
        refine lv_aload_n hx hb dX5_readNumber_18 rfl (lv_at hl 0 rfl) ?_
        refine s_get (v := .int (G 114 2)) hx hb hu inU5 hown hK hI (mE hE.1 eC_114) rfl 2 (by decide) u1_91 (fun _ h => h) rfl rfl dX5_readNumber_19 ?_
        refine lv_icmp_ge (tgt := 93) hx hb dX5_readNumber_22 (by decide) (fun c6 => ?_) (fun c6 => ?_)
        · have hf := ite_t c6 hf
          exact B93    G H locs ls (lv_sub hl [0] rfl) hI hf
        · have hf := ite_f c6 hf
          refine lv_aload_n hx hb dX5_readNumber_25 rfl (lv_at hl 0 rfl) ?_
          refine s_get (v := .ref (ad 115)) hx hb hu inU5 hown hK hI (mE hE.1 eC_114) rfl 0 (by decide) u1_89 (fun _ h => h) rfl rfl dX5_readNumber_26 ?_
          refine lv_aload_n hx hb dX5_readNumber_29 rfl (lv_at hl 0 rfl) ?_
          refine s_get (v := .int (G 114 3)) hx hb hu inU5 hown hK hI (mE hE.1 eC_114) rfl 3 (by decide) u1_93 (fun _ h => h) rfl rfl dX5_readNumber_30 ?_
          obtain ⟨h7, hf⟩ := chk_i hf
          refine s_cld hx hb hK hI (mE hE.1 eC_115) (inB_i h7) dX5_readNumber_33 ?_
          refine lv_bipush (v := 48) hx hb dX5_readNumber_34 (by decide) ?_
          refine lv_icmp_lt (tgt := 93) hx hb dX5_readNumber_36 (by decide) (fun c8 => ?_) (fun c8 => ?_)
          · have hf := ite_t c8 hf
            exact B93    G H locs ls (lv_sub hl [0] rfl) hI hf
          · have hf := ite_f c8 hf
            refine lv_aload_n hx hb dX5_readNumber_39 rfl (lv_at hl 0 rfl) ?_
            refine s_get (v := .ref (ad 115)) hx hb hu inU5 hown hK hI (mE hE.1 eC_114) rfl 0 (by decide) u1_89 (fun _ h => h) rfl rfl dX5_readNumber_40 ?_
            refine lv_aload_n hx hb dX5_readNumber_43 rfl (lv_at hl 0 rfl) ?_
            refine s_get (v := .int (G 114 3)) hx hb hu inU5 hown hK hI (mE hE.1 eC_114) rfl 3 (by decide) u1_93 (fun _ h => h) rfl rfl dX5_readNumber_44 ?_
            obtain ⟨h9, hf⟩ := chk_i hf
            refine s_cld hx hb hK hI (mE hE.1 eC_115) (inB_i h9) dX5_readNumber_47 ?_
            refine lv_bipush (v := 57) hx hb dX5_readNumber_48 (by decide) ?_
            refine lv_icmp_gt (tgt := 93) hx hb dX5_readNumber_50 (by decide) (fun c10 => ?_) (fun c10 => ?_)
            · have hf := ite_t c10 hf
              exact B93    G H locs ls (lv_sub hl [0] rfl) hI hf
            · have hf := ite_f c10 hf
              refine lv_aload_n hx hb dX5_readNumber_53 rfl (lv_at hl 0 rfl) ?_
              refine lv_bipush (v := 10) hx hb dX5_readNumber_54 (by decide) ?_
              refine lv_aload_n hx hb dX5_readNumber_56 rfl (lv_at hl 0 rfl) ?_
              refine s_get (v := .int (G 114 6)) hx hb hu inU5 hown hK hI (mE hE.1 eC_114) rfl 6 (by decide) u1_97 (fun _ h => h) rfl rfl dX5_readNumber_57 ?_
              refine lv_imul hx hb dX5_readNumber_60 ?_
              refine lv_aload_n hx hb dX5_readNumber_61 rfl (lv_at hl 0 rfl) ?_
              refine s_get (v := .ref (ad 115)) hx hb hu inU5 hown hK hI (mE hE.1 eC_114) rfl 0 (by decide) u1_89 (fun _ h => h) rfl rfl dX5_readNumber_62 ?_
              refine lv_aload_n hx hb dX5_readNumber_65 rfl (lv_at hl 0 rfl) ?_
              refine s_get (v := .int (G 114 3)) hx hb hu inU5 hown hK hI (mE hE.1 eC_114) rfl 3 (by decide) u1_93 (fun _ h => h) rfl rfl dX5_readNumber_66 ?_
              obtain ⟨h11, hf⟩ := chk_i hf
              refine s_cld hx hb hK hI (mE hE.1 eC_115) (inB_i h11) dX5_readNumber_69 ?_
              refine lv_iadd hx hb dX5_readNumber_70 ?_
              refine lv_bipush (v := 48) hx hb dX5_readNumber_71 (by decide) ?_
              refine lv_isub hx hb dX5_readNumber_73 ?_
              obtain ⟨G12, eG12, hf⟩ := bnd_i hf
              refine s_put (ty := .int) hx hb hu inU5 tyX5_ok nmX5 hown hK hI (mE hE.1 eC_114) rfl 6 (by decide) u1_97 (fun _ h => h) rfl rfl (tyX5_ok 6 (by decide)) rfl rfl eG12 dX5_readNumber_74 (fun H locs hI => ?_)
              refine lv_aload_n hx hb dX5_readNumber_77 rfl (lv_at hl 0 rfl) ?_
              refine lv_dup hx hb dX5_readNumber_78 rfl ?_
              refine s_get (v := .int (G12 114 3)) hx hb hu inU5 hown hK hI (mE hE.1 eC_114) rfl 3 (by decide) u1_93 (fun _ h => h) rfl rfl dX5_readNumber_79 ?_
              refine lv_iconst (v := 1) hx hb dX5_readNumber_82 (by decide) ?_
              refine lv_iadd hx hb dX5_readNumber_83 ?_
              obtain ⟨G13, eG13, hf⟩ := bnd_i hf
              refine s_put (ty := .int) hx hb hu inU5 tyX5_ok nmX5 hown hK hI (mE hE.1 eC_114) rfl 3 (by decide) u1_93 (fun _ h => h) rfl rfl (tyX5_ok 3 (by decide)) rfl rfl eG13 dX5_readNumber_84 (fun H locs hI => ?_)
              obtain ⟨x1_14, ex1_14, hf⟩ := bnd_i hf
              refine lv_iinc (v := x1_14) (lv' := [(1, .int x1_14), (0, .ref (ad 114))]) hx hb dX5_readNumber_87 hl (k := 1) rfl (by rw [ex1_14]; rfl) (by decide) rfl (fun ls hl => ?_)
              refine lv_goto (tgt := 7) hx hb dX5_readNumber_90 (by decide) ?_
              exact ih G13 x1_14 H locs ls (lv_sub hl [1, 0] rfl) hI hf
  rw [f_X5_readNumber] at hf
  refine lv_aload_n hx hb dX5_readNumber_0 rfl (lv_at hl 0 rfl) ?_
  refine lv_iconst (v := 0) hx hb dX5_readNumber_1 (by decide) ?_
  obtain ⟨G1, eG1, hf⟩ := bnd_i hf
  refine s_put (ty := .int) hx hb hu inU5 tyX5_ok nmX5 hown hK hI (mE hE.1 eC_114) rfl 6 (by decide) u1_97 (fun _ h => h) rfl rfl (tyX5_ok 6 (by decide)) rfl rfl eG1 dX5_readNumber_2 (fun H locs hI => ?_)
  refine lv_iconst (v := 0) hx hb dX5_readNumber_5 (by decide) ?_
  refine lv_istore_n (lv' := [(1, .int 0), (0, .ref (ad 114))]) hx hb dX5_readNumber_6 rfl hl (by decide) rfl (fun ls hl => ?_)
  exact B7   fuel G1 0 H locs ls (lv_sub hl [1, 0] rfl) hI hf
noncomputable def f_X5_readSign (G : Mem)  : Option (Mem) := chk (inB (G 114 4) 160) (bndO (f_J0_indexOf_0f7a4 2 (G 115 (G 114 4).toNatClampNeg)) (fun v3 => (if v3 < 0 then bnd (up2 G 114 5 10) (fun G5 => bnd (up2 G5 114 3 ((G5 114 4) + 1)) (fun G6 => some G6)) else chk (inB (G 114 4) 160) (bnd (up2 G 114 5 (G 115 (G 114 4).toNatClampNeg)) (fun G8 => bnd (up2 G8 114 3 ((G8 114 4) + 1)) (fun G9 => some G9))))))
theorem kyX5_readSign : Ky yX5_readSign cX5_readSign 1 none 0 := ⟨u2_41, u1_4, by decide, by decide, by decide, by decide +kernel⟩
set_option maxHeartbeats 4000000 in
set_option maxRecDepth 100000 in
theorem c_X5_readSign (l : Launch) (D : va_G) (K : List Nat) (sh : Nat → Ent) (ad : Nat → Nat) (cy : Nat → ClassId) (X : va_W) (B : State → Prop) (hcl : Bcl (AS K ad X) B) (S : Nat → Nat) (hE : HC S K sh) (adK adV : Nat → Nat) (hSB : ∀ U : State, B U → SB adK adV (AS K ad X) U) (G : Mem) (L : MemL) (O : MemO)  {Gz : Mem} (hf : f_X5_readSign G = some Gz) : Met l yX5_readSign (wsU yX5_readSign cX5_readSign 1 none) (rmX 5 0 0) (va_Pc [.ref (ad 114)] (PS D K sh ad cy X B G L O)) (QV (AS K ad X) (PH D K sh ad cy X Gz L O)) 0 0 (AS K ad X) := by
  refine s_met (by decide) (Nat.le_of_ble_eq_true rfl) ?_
  intro p e s m args below meth c ls H locs E hK hBs hnm hI hl
  have hl : lv_has ls 1 [(0, .ref (ad 114))] := hl
  have E : Cx p s m args meth c RX5 cX5_readSign 1 none := E
  obtain ⟨hx, hb, hr, hml, hown, hu, hlocks⟩ := id E
  rw [f_X5_readSign] at hf
  refine lv_aload_n hx hb dX5_readSign_0 rfl (lv_at hl 0 rfl) ?_
  refine va_ldcS hx hb hown (hSB _ hBs).2.2.2.1 dX5_readSign_1 ?_
  refine lv_aload_n hx hb dX5_readSign_3 rfl (lv_at hl 0 rfl) ?_
  refine s_get (v := .ref (ad 115)) hx hb hu inU5 hown hK hI (mE hE.1 eC_114) rfl 0 (by decide) u1_89 (fun _ h => h) rfl rfl dX5_readSign_4 ?_
  refine lv_aload_n hx hb dX5_readSign_7 rfl (lv_at hl 0 rfl) ?_
  refine s_get (v := .int (G 114 4)) hx hb hu inU5 hown hK hI (mE hE.1 eC_114) rfl 4 (by decide) u1_95 (fun _ h => h) rfl rfl dX5_readSign_8 ?_
  obtain ⟨h1, hf⟩ := chk_i hf
  refine s_cld hx hb hK hI (mE hE.1 eC_115) (inB_i h1) dX5_readSign_11 ?_
  obtain ⟨v3, h2, hf⟩ := bndO_i hf
  refine s_afI hI (s_runT (rest := [.ref (ad 114)]) (As := [.int (G 115 (G 114 4).toNatClampNeg)]) (np := 1) E hK hI (s_B hcl hBs hI) hcl.2 (vk_recv (hSB _ hBs).1 (by decide) hI.2.2) (c_J0_indexOf_0f7a4 l D K sh ad cy X B hcl adK adV hSB 2 (by decide) G L O (G 115 (G 114 4).toNatClampNeg) h2) kyJ0_indexOf_0f7a4 u2_43 u2_44 u2_45 (by decide) rfl hl.1 rfl (Nat.le_of_ble_eq_true rfl) ⟨Nat.zero_le _, Nat.zero_le _⟩ dX5_readSign_12) (fun H locs hI => ?_)
  refine lv_if_lt (tgt := 30) hx hb dX5_readSign_15 (by decide) (fun c4 => ?_) (fun c4 => ?_)
  · have hf := ite_t c4 hf
    refine lv_bipush (v := 10) hx hb dX5_readSign_30 (by decide) ?_
    obtain ⟨G5, eG5, hf⟩ := bnd_i hf
    refine s_put (ty := .int) hx hb hu inU5 tyX5_ok nmX5 hown hK hI (mE hE.1 eC_114) rfl 5 (by decide) u1_96 (fun _ h => h) rfl rfl (tyX5_ok 5 (by decide)) rfl rfl eG5 dX5_readSign_32 (fun H locs hI => ?_)
    refine lv_aload_n hx hb dX5_readSign_35 rfl (lv_at hl 0 rfl) ?_
    refine lv_aload_n hx hb dX5_readSign_36 rfl (lv_at hl 0 rfl) ?_
    refine s_get (v := .int (G5 114 4)) hx hb hu inU5 hown hK hI (mE hE.1 eC_114) rfl 4 (by decide) u1_95 (fun _ h => h) rfl rfl dX5_readSign_37 ?_
    refine lv_iconst (v := 1) hx hb dX5_readSign_40 (by decide) ?_
    refine lv_iadd hx hb dX5_readSign_41 ?_
    obtain ⟨G6, eG6, hf⟩ := bnd_i hf
    refine s_put (ty := .int) hx hb hu inU5 tyX5_ok nmX5 hown hK hI (mE hE.1 eC_114) rfl 3 (by decide) u1_93 (fun _ h => h) rfl rfl (tyX5_ok 3 (by decide)) rfl rfl eG6 dX5_readSign_42 (fun H locs hI => ?_)
    cases hf
    exact s_vret hx hb hr hI.2.2 hI.1 hlocks dX5_readSign_45
  · have hf := ite_f c4 hf
    refine lv_aload_n hx hb dX5_readSign_18 rfl (lv_at hl 0 rfl) ?_
    refine s_get (v := .ref (ad 115)) hx hb hu inU5 hown hK hI (mE hE.1 eC_114) rfl 0 (by decide) u1_89 (fun _ h => h) rfl rfl dX5_readSign_19 ?_
    refine lv_aload_n hx hb dX5_readSign_22 rfl (lv_at hl 0 rfl) ?_
    refine s_get (v := .int (G 114 4)) hx hb hu inU5 hown hK hI (mE hE.1 eC_114) rfl 4 (by decide) u1_95 (fun _ h => h) rfl rfl dX5_readSign_23 ?_
    obtain ⟨h7, hf⟩ := chk_i hf
    refine s_cld hx hb hK hI (mE hE.1 eC_115) (inB_i h7) dX5_readSign_26 ?_
    refine lv_goto (tgt := 32) hx hb dX5_readSign_27 (by decide) ?_
    obtain ⟨G8, eG8, hf⟩ := bnd_i hf
    refine s_put (ty := .int) hx hb hu inU5 tyX5_ok nmX5 hown hK hI (mE hE.1 eC_114) rfl 5 (by decide) u1_96 (fun _ h => h) rfl rfl (tyX5_ok 5 (by decide)) rfl rfl eG8 dX5_readSign_32 (fun H locs hI => ?_)
    refine lv_aload_n hx hb dX5_readSign_35 rfl (lv_at hl 0 rfl) ?_
    refine lv_aload_n hx hb dX5_readSign_36 rfl (lv_at hl 0 rfl) ?_
    refine s_get (v := .int (G8 114 4)) hx hb hu inU5 hown hK hI (mE hE.1 eC_114) rfl 4 (by decide) u1_95 (fun _ h => h) rfl rfl dX5_readSign_37 ?_
    refine lv_iconst (v := 1) hx hb dX5_readSign_40 (by decide) ?_
    refine lv_iadd hx hb dX5_readSign_41 ?_
    obtain ⟨G9, eG9, hf⟩ := bnd_i hf
    refine s_put (ty := .int) hx hb hu inU5 tyX5_ok nmX5 hown hK hI (mE hE.1 eC_114) rfl 3 (by decide) u1_93 (fun _ h => h) rfl rfl (tyX5_ok 3 (by decide)) rfl rfl eG9 dX5_readSign_42 (fun H locs hI => ?_)
    cases hf
    exact s_vret hx hb hr hI.2.2 hI.1 hlocks dX5_readSign_45
noncomputable def q_X5_isWord_12 (G : Mem) (x1 : Int32)  (rec : (Int32 × Int32) → Option (Int32)) : (Int32 × Int32) → Option (Int32) := fun (x2, x3) => (if 7 ≤ x3 then (if 7 < x2 then some 0 else some 1) else bndO (f_J0_charAt_5068e 1 ((x1 * 7) + x3)) (fun v5 => (if x2 ≤ x3 then (if v5 = 32 then bnd (x3 + 1) (fun x3_8 => rec (x2, x3_8)) else some 0) else chk (inB ((G 114 4) + x3) 160) (bnd (G 115 ((G 114 4) + x3).toNatClampNeg) (fun x5_10 => (if v5 = x5_10 then bnd (x3 + 1) (fun x3_12 => rec (x2, x3_12)) else some 0))))))
noncomputable def f_X5_isWord (G : Mem) (x1 : Int32) : Option (Int32) := bnd ((G 114 3) - (G 114 4)) (fun x2_1 => iter (q_X5_isWord_12 G x1) fuel (x2_1, 0))
theorem kyX5_isWord : Ky yX5_isWord cX5_isWord 6 (some FieldType.boolean) 1 := ⟨u2_28, u1_4, by decide, by decide, by decide, by decide +kernel⟩
set_option maxHeartbeats 4000000 in
set_option maxRecDepth 100000 in
theorem c_X5_isWord (l : Launch) (D : va_G) (K : List Nat) (sh : Nat → Ent) (ad : Nat → Nat) (cy : Nat → ClassId) (X : va_W) (B : State → Prop) (hcl : Bcl (AS K ad X) B) (S : Nat → Nat) (hE : HC S K sh) (adK adV : Nat → Nat) (hSB : ∀ U : State, B U → SB adK adV (AS K ad X) U) (G : Mem) (L : MemL) (O : MemO) (x1 : Int32)  {vz : Int32} (hf : f_X5_isWord G x1 = some vz) : Met l yX5_isWord (wsU yX5_isWord cX5_isWord 6 (some FieldType.boolean)) (rmX 5 0 0) (va_Pc [.ref (ad 114), .int x1] (PS D K sh ad cy X B G L O)) (QI (AS K ad X) (PH D K sh ad cy X G L O) vz) 0 0 (AS K ad X) := by
  refine s_met (by decide) (Nat.le_of_ble_eq_true rfl) ?_
  intro p e s m args below meth c ls H locs E hK hBs hnm hI hl
  have hl : lv_has ls 6 [(0, .ref (ad 114)), (1, .int x1)] := hl
  have E : Cx p s m args meth c RX5 cX5_isWord 6 (some FieldType.boolean) := E
  obtain ⟨hx, hb, hr, hml, hown, hu, hlocks⟩ := id E
  have B12 : ∀   (n : Nat) (x2 : Int32) (x3 : Int32) (H : Heap) (locs : List Loc) (ls : Array Slot), lv_has ls 6 [(0, .ref (ad 114)), (1, .int x1), (2, .int x2), (3, .int x3)] → IS D K sh ad cy X (AS K ad X) s.heap H locs G L O → iter (q_X5_isWord_12 G x1) n (x2, x3) = some vz → W p l e (rmX 5 0 0) s m args below meth c H locs 0 0 (MQ below (QI (AS K ad X) (PH D K sh ad cy X G L O) vz) args s 0 0 (AS K ad X)) (F0 m 12 ls []) := by
    intro n
    induction n with
    | zero => intro x2 x3 H locs ls hl hI hf; exact iter_0 hf
    | succ n ih =>
      intro x2 x3 H locs ls hl hI hf
      have hf : q_X5_isWord_12 G x1 (iter (q_X5_isWord_12 G x1) n) (x2, x3) = some vz := hf
      rw [q_X5_isWord_12] at hf
      refine lv_iload_n hx hb dX5_isWord_12 rfl (lv_at hl 3 rfl) ?_
      refine lv_bipush (v := 7) hx hb dX5_isWord_13 (by decide) ?_
      refine lv_icmp_ge (tgt := 69) hx hb dX5_isWord_15 (by decide) (fun c2 => ?_) (fun c2 => ?_)
      · have hf := ite_t c2 hf
        refine lv_iload_n hx hb dX5_isWord_69 rfl (lv_at hl 2 rfl) ?_
        refine lv_bipush (v := 7) hx hb dX5_isWord_70 (by decide) ?_
        refine lv_icmp_gt (tgt := 79) hx hb dX5_isWord_72 (by decide) (fun c3 => ?_) (fun c3 => ?_)
        · have hf := ite_t c3 hf
          refine lv_iconst (v := 0) hx hb dX5_isWord_79 (by decide) ?_
          cases hf
          exact s_zret rfl hx hb hr hI.2.2 hI.1 hlocks dX5_isWord_80
        · have hf := ite_f c3 hf
          refine lv_iconst (v := 1) hx hb dX5_isWord_75 (by decide) ?_
          refine lv_goto (tgt := 80) hx hb dX5_isWord_76 (by decide) ?_
          cases hf
          exact s_zret rfl hx hb hr hI.2.2 hI.1 hlocks dX5_isWord_80
      · have hf := ite_f c2 hf
        refine va_ldcS hx hb hown (hSB _ hBs).2.2.1 dX5_isWord_18 ?_
        refine lv_iload_n hx hb dX5_isWord_20 rfl (lv_at hl 1 rfl) ?_
        refine lv_bipush (v := 7) hx hb dX5_isWord_21 (by decide) ?_
        refine lv_imul hx hb dX5_isWord_23 ?_
        refine lv_iload_n hx hb dX5_isWord_24 rfl (lv_at hl 3 rfl) ?_
        refine lv_iadd hx hb dX5_isWord_25 ?_
        obtain ⟨v5, h4, hf⟩ := bndO_i hf
        refine s_afI hI (s_runT (rest := []) (As := [.int ((x1 * 7) + x3)]) (np := 1) E hK hI (s_B hcl hBs hI) hcl.2 (vk_recv (hSB _ hBs).1 (by decide) hI.2.2) (c_J0_charAt_5068e l D K sh ad cy X B hcl adK adV hSB 1 (by decide) G L O ((x1 * 7) + x3) h4) kyJ0_charAt_5068e u2_30 u1_212 u1_213 (by decide) rfl hl.1 rfl (Nat.le_of_ble_eq_true rfl) ⟨Nat.zero_le _, Nat.zero_le _⟩ dX5_isWord_26) (fun H locs hI => ?_)
        refine lv_istore (lv' := [(4, .int v5), (0, .ref (ad 114)), (1, .int x1), (2, .int x2), (3, .int x3)]) hx hb dX5_isWord_29 hl (by decide) rfl (fun ls hl => ?_)
        refine lv_iload_n hx hb dX5_isWord_31 rfl (lv_at hl 4 rfl) ?_
        refine lv_iload_n hx hb dX5_isWord_32 rfl (lv_at hl 3 rfl) ?_
        refine lv_icmp_ge (tgt := 50) hx hb dX5_isWord_33 (by decide) (fun c6 => ?_) (fun c6 => ?_)
        · have hf := ite_t c6 hf
          refine lv_bipush (v := 32) hx hb dX5_isWord_50 (by decide) ?_
          refine lv_istore (lv' := [(5, .int 32), (4, .int v5), (0, .ref (ad 114)), (1, .int x1), (2, .int x2), (3, .int x3)]) hx hb dX5_isWord_52 hl (by decide) rfl (fun ls hl => ?_)
          refine lv_iload hx hb dX5_isWord_54 (lv_at hl 1 rfl) ?_
          refine lv_iload hx hb dX5_isWord_56 (lv_at hl 0 rfl) ?_
          refine lv_icmp_eq (tgt := 63) hx hb dX5_isWord_58 (by decide) (fun c7 => ?_) (fun c7 => ?_)
          · have hf := ite_t c7 hf
            obtain ⟨x3_8, ex3_8, hf⟩ := bnd_i hf
            refine lv_iinc (v := x3_8) (lv' := [(3, .int x3_8), (5, .int 32), (4, .int v5), (0, .ref (ad 114)), (1, .int x1), (2, .int x2)]) hx hb dX5_isWord_63 hl (k := 5) rfl (by rw [ex3_8]; rfl) (by decide) rfl (fun ls hl => ?_)
            refine lv_goto (tgt := 12) hx hb dX5_isWord_66 (by decide) ?_
            exact ih x2 x3_8 H locs ls (lv_sub hl [3, 4, 5, 0] rfl) hI hf
          · have hf := ite_f c7 hf
            refine lv_iconst (v := 0) hx hb dX5_isWord_61 (by decide) ?_
            cases hf
            exact s_zret rfl hx hb hr hI.2.2 hI.1 hlocks dX5_isWord_62
        · have hf := ite_f c6 hf
          refine lv_aload_n hx hb dX5_isWord_36 rfl (lv_at hl 1 rfl) ?_
          refine s_get (v := .ref (ad 115)) hx hb hu inU5 hown hK hI (mE hE.1 eC_114) rfl 0 (by decide) u1_89 (fun _ h => h) rfl rfl dX5_isWord_37 ?_
          refine lv_aload_n hx hb dX5_isWord_40 rfl (lv_at hl 1 rfl) ?_
          refine s_get (v := .int (G 114 4)) hx hb hu inU5 hown hK hI (mE hE.1 eC_114) rfl 4 (by decide) u1_95 (fun _ h => h) rfl rfl dX5_isWord_41 ?_
          refine lv_iload_n hx hb dX5_isWord_44 rfl (lv_at hl 4 rfl) ?_
          refine lv_iadd hx hb dX5_isWord_45 ?_
          obtain ⟨h9, hf⟩ := chk_i hf
          refine s_cld hx hb hK hI (mE hE.1 eC_115) (inB_i h9) dX5_isWord_46 ?_
          refine lv_goto (tgt := 52) hx hb dX5_isWord_47 (by decide) ?_
          obtain ⟨x5_10, ex5_10, hf⟩ := bnd_i hf
          refine s_nmI ex5_10 ?_
          refine lv_istore (lv' := [(5, .int x5_10), (4, .int v5), (0, .ref (ad 114)), (1, .int x1), (2, .int x2), (3, .int x3)]) hx hb dX5_isWord_52 hl (by decide) rfl (fun ls hl => ?_)
          refine lv_iload hx hb dX5_isWord_54 (lv_at hl 1 rfl) ?_
          refine lv_iload hx hb dX5_isWord_56 (lv_at hl 0 rfl) ?_
          refine lv_icmp_eq (tgt := 63) hx hb dX5_isWord_58 (by decide) (fun c11 => ?_) (fun c11 => ?_)
          · have hf := ite_t c11 hf
            obtain ⟨x3_12, ex3_12, hf⟩ := bnd_i hf
            refine lv_iinc (v := x3_12) (lv' := [(3, .int x3_12), (5, .int x5_10), (4, .int v5), (0, .ref (ad 114)), (1, .int x1), (2, .int x2)]) hx hb dX5_isWord_63 hl (k := 5) rfl (by rw [ex3_12]; rfl) (by decide) rfl (fun ls hl => ?_)
            refine lv_goto (tgt := 12) hx hb dX5_isWord_66 (by decide) ?_
            exact ih x2 x3_12 H locs ls (lv_sub hl [3, 4, 5, 0] rfl) hI hf
          · have hf := ite_f c11 hf
            refine lv_iconst (v := 0) hx hb dX5_isWord_61 (by decide) ?_
            cases hf
            exact s_zret rfl hx hb hr hI.2.2 hI.1 hlocks dX5_isWord_62
  rw [f_X5_isWord] at hf
  refine lv_aload_n hx hb dX5_isWord_0 rfl (lv_at hl 0 rfl) ?_
  refine s_get (v := .int (G 114 3)) hx hb hu inU5 hown hK hI (mE hE.1 eC_114) rfl 3 (by decide) u1_93 (fun _ h => h) rfl rfl dX5_isWord_1 ?_
  refine lv_aload_n hx hb dX5_isWord_4 rfl (lv_at hl 0 rfl) ?_
  refine s_get (v := .int (G 114 4)) hx hb hu inU5 hown hK hI (mE hE.1 eC_114) rfl 4 (by decide) u1_95 (fun _ h => h) rfl rfl dX5_isWord_5 ?_
  refine lv_isub hx hb dX5_isWord_8 ?_
  obtain ⟨x2_1, ex2_1, hf⟩ := bnd_i hf
  refine s_nmI ex2_1 ?_
  refine lv_istore_n (lv' := [(2, .int x2_1), (0, .ref (ad 114)), (1, .int x1)]) hx hb dX5_isWord_9 rfl hl (by decide) rfl (fun ls hl => ?_)
  refine lv_iconst (v := 0) hx hb dX5_isWord_10 (by decide) ?_
  refine lv_istore_n (lv' := [(3, .int 0), (2, .int x2_1), (0, .ref (ad 114)), (1, .int x1)]) hx hb dX5_isWord_11 rfl hl (by decide) rfl (fun ls hl => ?_)
  exact B12   fuel x2_1 0 H locs ls (lv_sub hl [2, 3, 1, 0] rfl) hI hf
noncomputable def q_X5_readWord_72   (rec : (Mem × Int32) → Option (Mem)) : (Mem × Int32) → Option (Mem) := fun (G, x1) => (if 12 ≤ x1 then some G else bndO (f_X5_isWord G x1) (fun v4 => (if v4 = 0 then bnd (x1 + 1) (fun x1_7 => rec (G, x1_7)) else bnd (up2 G 114 5 (if 6 < x1 then 6 else x1)) (fun G8 => bnd (up2 G8 114 6 (x1 - 6)) (fun G9 => bnd (x1 + 1) (fun x1_10 => rec (G9, x1_10)))))))
noncomputable def j_X5_readWord_64   (G : Mem) : Option (Mem) := bnd (up2 G 114 5 10) (fun G2 => iter (q_X5_readWord_72) fuel (G2, 0))
noncomputable def q_X5_readWord_2   (rec : (Mem × Int32) → Option (Mem)) : (Mem × Int32) → Option (Mem) := fun (G, x1) => (if 160 ≤ x1 then j_X5_readWord_64 G else (if (G 114 2) ≤ (G 114 3) then j_X5_readWord_64 G else chk (inB (G 114 3) 160) ((if (G 115 (G 114 3).toNatClampNeg) < 97 then j_X5_readWord_64 G else chk (inB (G 114 3) 160) ((if 122 < (G 115 (G 114 3).toNatClampNeg) then j_X5_readWord_64 G else bnd (up2 G 114 3 ((G 114 3) + 1)) (fun G16 => bnd (x1 + 1) (fun x1_17 => rec (G16, x1_17)))))))))
noncomputable def f_X5_readWord (G : Mem)  : Option (Mem) := iter (q_X5_readWord_2) fuel (G, 0)
theorem kyX5_readWord : Ky yX5_readWord cX5_readWord 2 none 0 := ⟨u2_24, u1_4, by decide, by decide, by decide, by decide +kernel⟩
set_option maxHeartbeats 4000000 in
set_option maxRecDepth 100000 in
theorem c_X5_readWord (l : Launch) (D : va_G) (K : List Nat) (sh : Nat → Ent) (ad : Nat → Nat) (cy : Nat → ClassId) (X : va_W) (B : State → Prop) (hcl : Bcl (AS K ad X) B) (S : Nat → Nat) (hE : HC S K sh) (adK adV : Nat → Nat) (hSB : ∀ U : State, B U → SB adK adV (AS K ad X) U) (G : Mem) (L : MemL) (O : MemO)  {Gz : Mem} (hf : f_X5_readWord G = some Gz) : Met l yX5_readWord (wsU yX5_readWord cX5_readWord 2 none) (rmX 6 0 0) (va_Pc [.ref (ad 114)] (PS D K sh ad cy X B G L O)) (QV (AS K ad X) (PH D K sh ad cy X Gz L O)) 0 0 (AS K ad X) := by
  refine s_met (by decide) (Nat.le_of_ble_eq_true rfl) ?_
  intro p e s m args below meth c ls H locs E hK hBs hnm hI hl
  have hl : lv_has ls 2 [(0, .ref (ad 114))] := hl
  have E : Cx p s m args meth c RX5 cX5_readWord 2 none := E
  obtain ⟨hx, hb, hr, hml, hown, hu, hlocks⟩ := id E
  have B72 : ∀   (n : Nat) (G : Mem) (x1 : Int32) (H : Heap) (locs : List Loc) (ls : Array Slot), lv_has ls 2 [(0, .ref (ad 114)), (1, .int x1)] → IS D K sh ad cy X (AS K ad X) s.heap H locs G L O → iter (q_X5_readWord_72) n (G, x1) = some Gz → W p l e (rmX 6 0 0) s m args below meth c H locs 0 0 (MQ below (QV (AS K ad X) (PH D K sh ad cy X Gz L O)) args s 0 0 (AS K ad X)) (F0 m 72 ls []) := by
    intro n
    induction n with
    | zero => intro G x1 H locs ls hl hI hf; exact iter_0 hf
    | succ n ih =>
      intro G x1 H locs ls hl hI hf
      have hf : q_X5_readWord_72 (iter (q_X5_readWord_72) n) (G, x1) = some Gz := hf
      rw [q_X5_readWord_72] at hf
      refine lv_iload_n hx hb dX5_readWord_72 rfl (lv_at hl 1 rfl) ?_
      refine lv_bipush (v := 12) hx hb dX5_readWord_73 (by decide) ?_
      refine lv_icmp_ge (tgt := 110) hx hb dX5_readWord_75 (by decide) (fun c3 => ?_) (fun c3 => ?_)
      · have hf := ite_t c3 hf
        cases hf
        exact s_vret hx hb hr hI.2.2 hI.1 hlocks dX5_readWord_110
      · have hf := ite_f c3 hf
        refine lv_aload_n hx hb dX5_readWord_78 rfl (lv_at hl 0 rfl) ?_
        refine lv_iload_n hx hb dX5_readWord_79 rfl (lv_at hl 1 rfl) ?_
        obtain ⟨v4, h5, hf⟩ := bndO_i hf
        refine s_afI hI (s_runV (rest := []) (As := [.int x1]) (np := 1) E hK hI (s_B hcl hBs hI) hcl.2 (mE hE.1 eC_114) rfl (c_X5_isWord l D K sh ad cy X B hcl S hE adK adV hSB G L O x1 h5) kyX5_isWord u2_25 u2_27 up_2 (by decide) rfl hl.1 rfl (Nat.le_of_ble_eq_true rfl) ⟨Nat.zero_le _, Nat.zero_le _⟩ dX5_readWord_80) (fun H locs hI => ?_)
        refine lv_if_eq (tgt := 104) hx hb dX5_readWord_83 (by decide) (fun c6 => ?_) (fun c6 => ?_)
        · have hf := ite_t c6 hf
          obtain ⟨x1_7, ex1_7, hf⟩ := bnd_i hf
          refine lv_iinc (v := x1_7) (lv' := [(1, .int x1_7), (0, .ref (ad 114))]) hx hb dX5_readWord_104 hl (k := 1) rfl (by rw [ex1_7]; rfl) (by decide) rfl (fun ls hl => ?_)
          refine lv_goto (tgt := 72) hx hb dX5_readWord_107 (by decide) ?_
          exact ih G x1_7 H locs ls (lv_sub hl [1, 0] rfl) hI hf
        · have hf := ite_f c6 hf
          refine lv_aload_n hx hb dX5_readWord_86 rfl (lv_at hl 0 rfl) ?_
          refine lv_iload_n hx hb dX5_readWord_87 rfl (lv_at hl 1 rfl) ?_
          refine lv_bipush (v := 6) hx hb dX5_readWord_88 (by decide) ?_
          refine s_mmin (rest := [.ref (ad 114)]) E hl.1 u2_31 u2_32 u1_11 u2_33 (by decide) (Nat.le_of_ble_eq_true rfl) ⟨Nat.zero_le _, Nat.zero_le _⟩ dX5_readWord_90 ?_
          obtain ⟨G8, eG8, hf⟩ := bnd_i hf
          refine s_put (ty := .int) hx hb hu inU5 tyX5_ok nmX5 hown hK hI (mE hE.1 eC_114) rfl 5 (by decide) u1_96 (fun _ h => h) rfl rfl (tyX5_ok 5 (by decide)) rfl rfl eG8 dX5_readWord_93 (fun H locs hI => ?_)
          refine lv_aload_n hx hb dX5_readWord_96 rfl (lv_at hl 0 rfl) ?_
          refine lv_iload_n hx hb dX5_readWord_97 rfl (lv_at hl 1 rfl) ?_
          refine lv_bipush (v := 6) hx hb dX5_readWord_98 (by decide) ?_
          refine lv_isub hx hb dX5_readWord_100 ?_
          obtain ⟨G9, eG9, hf⟩ := bnd_i hf
          refine s_put (ty := .int) hx hb hu inU5 tyX5_ok nmX5 hown hK hI (mE hE.1 eC_114) rfl 6 (by decide) u1_97 (fun _ h => h) rfl rfl (tyX5_ok 6 (by decide)) rfl rfl eG9 dX5_readWord_101 (fun H locs hI => ?_)
          obtain ⟨x1_10, ex1_10, hf⟩ := bnd_i hf
          refine lv_iinc (v := x1_10) (lv' := [(1, .int x1_10), (0, .ref (ad 114))]) hx hb dX5_readWord_104 hl (k := 1) rfl (by rw [ex1_10]; rfl) (by decide) rfl (fun ls hl => ?_)
          refine lv_goto (tgt := 72) hx hb dX5_readWord_107 (by decide) ?_
          exact ih G9 x1_10 H locs ls (lv_sub hl [1, 0] rfl) hI hf
  have B64 : ∀    (G : Mem) (H : Heap) (locs : List Loc) (ls : Array Slot), lv_has ls 2 [(0, .ref (ad 114))] → IS D K sh ad cy X (AS K ad X) s.heap H locs G L O → j_X5_readWord_64 G = some Gz → W p l e (rmX 6 0 0) s m args below meth c H locs 0 0 (MQ below (QV (AS K ad X) (PH D K sh ad cy X Gz L O)) args s 0 0 (AS K ad X)) (F0 m 64 ls []) := by
    intro  G H locs ls hl hI hf
    rw [j_X5_readWord_64] at hf
    refine lv_aload_n hx hb dX5_readWord_64 rfl (lv_at hl 0 rfl) ?_
    refine lv_bipush (v := 10) hx hb dX5_readWord_65 (by decide) ?_
    obtain ⟨G2, eG2, hf⟩ := bnd_i hf
    refine s_put (ty := .int) hx hb hu inU5 tyX5_ok nmX5 hown hK hI (mE hE.1 eC_114) rfl 5 (by decide) u1_96 (fun _ h => h) rfl rfl (tyX5_ok 5 (by decide)) rfl rfl eG2 dX5_readWord_67 (fun H locs hI => ?_)
    refine lv_iconst (v := 0) hx hb dX5_readWord_70 (by decide) ?_
    refine lv_istore_n (lv' := [(1, .int 0), (0, .ref (ad 114))]) hx hb dX5_readWord_71 rfl hl (by decide) rfl (fun ls hl => ?_)
    exact B72   fuel G2 0 H locs ls (lv_sub hl [1, 0] rfl) hI hf
  have B2 : ∀   (n : Nat) (G : Mem) (x1 : Int32) (H : Heap) (locs : List Loc) (ls : Array Slot), lv_has ls 2 [(0, .ref (ad 114)), (1, .int x1)] → IS D K sh ad cy X (AS K ad X) s.heap H locs G L O → iter (q_X5_readWord_2) n (G, x1) = some Gz → W p l e (rmX 6 0 0) s m args below meth c H locs 0 0 (MQ below (QV (AS K ad X) (PH D K sh ad cy X Gz L O)) args s 0 0 (AS K ad X)) (F0 m 2 ls []) := by
    intro n
    induction n with
    | zero => intro G x1 H locs ls hl hI hf; exact iter_0 hf
    | succ n ih =>
      intro G x1 H locs ls hl hI hf
      have hf : q_X5_readWord_2 (iter (q_X5_readWord_2) n) (G, x1) = some Gz := hf
      rw [q_X5_readWord_2] at hf
      refine lv_iload_n hx hb dX5_readWord_2 rfl (lv_at hl 1 rfl) ?_
      refine lv_sipush (v := 160) hx hb dX5_readWord_3 (by decide) ?_
      refine lv_icmp_ge (tgt := 64) hx hb dX5_readWord_6 (by decide) (fun c1 => ?_) (fun c1 => ?_)
      · have hf := ite_t c1 hf
        exact B64    G H locs ls (lv_sub hl [0] rfl) hI hf
      · have hf := ite_f c1 hf
        refine lv_aload_n hx hb dX5_readWord_9 rfl (lv_at hl 0 rfl) ?_
        refine s_get (v := .int (G 114 3)) hx hb hu inU5 hown hK hI (mE hE.1 eC_114) rfl 3 (by decide) u1_93 (fun _ h => h) rfl rfl dX5_readWord_10 ?_
        refine lv_aload_n hx hb dX5_readWord_13 rfl (lv_at hl 0 rfl) ?_
        refine s_get (v := .int (G 114 2)) hx hb hu inU5 hown hK hI (mE hE.1 eC_114) rfl 2 (by decide) u1_91 (fun _ h => h) rfl rfl dX5_readWord_14 ?_
        refine lv_icmp_ge (tgt := 64) hx hb dX5_readWord_17 (by decide) (fun c11 => ?_) (fun c11 => ?_)
        · have hf := ite_t c11 hf
          exact B64    G H locs ls (lv_sub hl [0] rfl) hI hf
        · have hf := ite_f c11 hf
          refine lv_aload_n hx hb dX5_readWord_20 rfl (lv_at hl 0 rfl) ?_
          refine s_get (v := .ref (ad 115)) hx hb hu inU5 hown hK hI (mE hE.1 eC_114) rfl 0 (by decide) u1_89 (fun _ h => h) rfl rfl dX5_readWord_21 ?_
          refine lv_aload_n hx hb dX5_readWord_24 rfl (lv_at hl 0 rfl) ?_
          refine s_get (v := .int (G 114 3)) hx hb hu inU5 hown hK hI (mE hE.1 eC_114) rfl 3 (by decide) u1_93 (fun _ h => h) rfl rfl dX5_readWord_25 ?_
          obtain ⟨h12, hf⟩ := chk_i hf
          refine s_cld hx hb hK hI (mE hE.1 eC_115) (inB_i h12) dX5_readWord_28 ?_
          refine lv_bipush (v := 97) hx hb dX5_readWord_29 (by decide) ?_
          refine lv_icmp_lt (tgt := 64) hx hb dX5_readWord_31 (by decide) (fun c13 => ?_) (fun c13 => ?_)
          · have hf := ite_t c13 hf
            exact B64    G H locs ls (lv_sub hl [0] rfl) hI hf
          · have hf := ite_f c13 hf
            refine lv_aload_n hx hb dX5_readWord_34 rfl (lv_at hl 0 rfl) ?_
            refine s_get (v := .ref (ad 115)) hx hb hu inU5 hown hK hI (mE hE.1 eC_114) rfl 0 (by decide) u1_89 (fun _ h => h) rfl rfl dX5_readWord_35 ?_
            refine lv_aload_n hx hb dX5_readWord_38 rfl (lv_at hl 0 rfl) ?_
            refine s_get (v := .int (G 114 3)) hx hb hu inU5 hown hK hI (mE hE.1 eC_114) rfl 3 (by decide) u1_93 (fun _ h => h) rfl rfl dX5_readWord_39 ?_
            obtain ⟨h14, hf⟩ := chk_i hf
            refine s_cld hx hb hK hI (mE hE.1 eC_115) (inB_i h14) dX5_readWord_42 ?_
            refine lv_bipush (v := 122) hx hb dX5_readWord_43 (by decide) ?_
            refine lv_icmp_gt (tgt := 64) hx hb dX5_readWord_45 (by decide) (fun c15 => ?_) (fun c15 => ?_)
            · have hf := ite_t c15 hf
              exact B64    G H locs ls (lv_sub hl [0] rfl) hI hf
            · have hf := ite_f c15 hf
              refine lv_aload_n hx hb dX5_readWord_48 rfl (lv_at hl 0 rfl) ?_
              refine lv_dup hx hb dX5_readWord_49 rfl ?_
              refine s_get (v := .int (G 114 3)) hx hb hu inU5 hown hK hI (mE hE.1 eC_114) rfl 3 (by decide) u1_93 (fun _ h => h) rfl rfl dX5_readWord_50 ?_
              refine lv_iconst (v := 1) hx hb dX5_readWord_53 (by decide) ?_
              refine lv_iadd hx hb dX5_readWord_54 ?_
              obtain ⟨G16, eG16, hf⟩ := bnd_i hf
              refine s_put (ty := .int) hx hb hu inU5 tyX5_ok nmX5 hown hK hI (mE hE.1 eC_114) rfl 3 (by decide) u1_93 (fun _ h => h) rfl rfl (tyX5_ok 3 (by decide)) rfl rfl eG16 dX5_readWord_55 (fun H locs hI => ?_)
              obtain ⟨x1_17, ex1_17, hf⟩ := bnd_i hf
              refine lv_iinc (v := x1_17) (lv' := [(1, .int x1_17), (0, .ref (ad 114))]) hx hb dX5_readWord_58 hl (k := 1) rfl (by rw [ex1_17]; rfl) (by decide) rfl (fun ls hl => ?_)
              refine lv_goto (tgt := 2) hx hb dX5_readWord_61 (by decide) ?_
              exact ih G16 x1_17 H locs ls (lv_sub hl [1, 0] rfl) hI hf
  rw [f_X5_readWord] at hf
  refine lv_iconst (v := 0) hx hb dX5_readWord_0 (by decide) ?_
  refine lv_istore_n (lv' := [(1, .int 0), (0, .ref (ad 114))]) hx hb dX5_readWord_1 rfl hl (by decide) rfl (fun ls hl => ?_)
  exact B2   fuel G 0 H locs ls (lv_sub hl [1, 0] rfl) hI hf
noncomputable def j_X5_advance_106   (G : Mem) (x1 : Int32) : Option (Mem) := chk (inB x1 160) ((if (G 115 x1.toNatClampNeg) < 48 then bndO (f_X5_readSign G) (fun G11 => some G11) else chk (inB x1 160) ((if 57 < (G 115 x1.toNatClampNeg) then bndO (f_X5_readSign G) (fun G15 => some G15) else bndO (f_X5_readNumber G) (fun G17 => some G17)))))
noncomputable def j_X5_advance_53   (G : Mem) (x1 : Int32) : Option (Mem) := bnd (up2 G 114 4 x1) (fun G3 => bnd (up2 G3 114 3 x1) (fun G4 => bnd (up2 G4 114 5 9) (fun G5 => (if (G5 114 2) ≤ x1 then some G5 else chk (inB x1 160) ((if (G5 115 x1.toNatClampNeg) < 97 then j_X5_advance_106 G5 x1 else chk (inB x1 160) ((if 122 < (G5 115 x1.toNatClampNeg) then j_X5_advance_106 G5 x1 else bndO (f_X5_readWord G5) (fun G21 => some G21)))))))))
noncomputable def q_X5_advance_7   (rec : (Mem × Int32 × Int32) → Option (Mem)) : (Mem × Int32 × Int32) → Option (Mem) := fun (G, x1, x2) => (if 160 ≤ x2 then j_X5_advance_53 G x1 else (if (G 114 2) ≤ x1 then j_X5_advance_53 G x1 else chk (inB x1 160) ((if (G 115 x1.toNatClampNeg) = 32 then bnd (x1 + 1) (fun x1_26 => bnd (x2 + 1) (fun x2_27 => rec (G, x1_26, x2_27))) else chk (inB x1 160) ((if (G 115 x1.toNatClampNeg) = 10 then bnd (x1 + 1) (fun x1_30 => bnd (x2 + 1) (fun x2_31 => rec (G, x1_30, x2_31))) else j_X5_advance_53 G x1))))))
noncomputable def f_X5_advance (G : Mem)  : Option (Mem) := bnd (G 114 3) (fun x1_1 => iter (q_X5_advance_7) fuel (G, x1_1, 0))
theorem kyX5_advance : Ky yX5_advance cX5_advance 3 none 0 := ⟨u2_20, u1_4, by decide, by decide, by decide, by decide +kernel⟩
set_option maxHeartbeats 4000000 in
set_option maxRecDepth 100000 in
theorem c_X5_advance (l : Launch) (D : va_G) (K : List Nat) (sh : Nat → Ent) (ad : Nat → Nat) (cy : Nat → ClassId) (X : va_W) (B : State → Prop) (hcl : Bcl (AS K ad X) B) (S : Nat → Nat) (hE : HC S K sh) (adK adV : Nat → Nat) (hSB : ∀ U : State, B U → SB adK adV (AS K ad X) U) (G : Mem) (L : MemL) (O : MemO)  {Gz : Mem} (hf : f_X5_advance G = some Gz) : Met l yX5_advance (wsU yX5_advance cX5_advance 3 none) (rmX 7 0 0) (va_Pc [.ref (ad 114)] (PS D K sh ad cy X B G L O)) (QV (AS K ad X) (PH D K sh ad cy X Gz L O)) 0 0 (AS K ad X) := by
  refine s_met (by decide) (Nat.le_of_ble_eq_true rfl) ?_
  intro p e s m args below meth c ls H locs E hK hBs hnm hI hl
  have hl : lv_has ls 3 [(0, .ref (ad 114))] := hl
  have E : Cx p s m args meth c RX5 cX5_advance 3 none := E
  obtain ⟨hx, hb, hr, hml, hown, hu, hlocks⟩ := id E
  have B106 : ∀    (G : Mem) (x1 : Int32) (H : Heap) (locs : List Loc) (ls : Array Slot), lv_has ls 3 [(0, .ref (ad 114)), (1, .int x1)] → IS D K sh ad cy X (AS K ad X) s.heap H locs G L O → j_X5_advance_106 G x1 = some Gz → W p l e (rmX 7 0 0) s m args below meth c H locs 0 0 (MQ below (QV (AS K ad X) (PH D K sh ad cy X Gz L O)) args s 0 0 (AS K ad X)) (F0 m 106 ls []) := by
    intro  G x1 H locs ls hl hI hf
    rw [j_X5_advance_106] at hf
    refine lv_aload_n hx hb dX5_advance_106 rfl (lv_at hl 0 rfl) ?_
    refine s_get (v := .ref (ad 115)) hx hb hu inU5 hown hK hI (mE hE.1 eC_114) rfl 0 (by decide) u1_89 (fun _ h => h) rfl rfl dX5_advance_107 ?_
    refine lv_iload_n hx hb dX5_advance_110 rfl (lv_at hl 1 rfl) ?_
    obtain ⟨h9, hf⟩ := chk_i hf
    refine s_cld hx hb hK hI (mE hE.1 eC_115) (inB_i h9) dX5_advance_111 ?_
    refine lv_bipush (v := 48) hx hb dX5_advance_112 (by decide) ?_
    refine lv_icmp_lt (tgt := 135) hx hb dX5_advance_114 (by decide) (fun c10 => ?_) (fun c10 => ?_)
    · have hf := ite_t c10 hf
      refine lv_aload_n hx hb dX5_advance_135 rfl (lv_at hl 0 rfl) ?_
      obtain ⟨G11, h12, hf⟩ := bndO_i hf
      refine s_afV hI (s_runV (rest := []) (As := []) (np := 0) E hK hI (s_B hcl hBs hI) hcl.2 (mE hE.1 eC_114) rfl (c_X5_readSign l D K sh ad cy X B hcl S hE adK adV hSB G L O  h12) kyX5_readSign u2_38 u2_40 up_4 (by decide) rfl hl.1 rfl (Nat.le_of_ble_eq_true rfl) ⟨Nat.zero_le _, Nat.zero_le _⟩ dX5_advance_136) (fun H locs hI => ?_)
      cases hf
      exact s_vret hx hb hr hI.2.2 hI.1 hlocks dX5_advance_139
    · have hf := ite_f c10 hf
      refine lv_aload_n hx hb dX5_advance_117 rfl (lv_at hl 0 rfl) ?_
      refine s_get (v := .ref (ad 115)) hx hb hu inU5 hown hK hI (mE hE.1 eC_114) rfl 0 (by decide) u1_89 (fun _ h => h) rfl rfl dX5_advance_118 ?_
      refine lv_iload_n hx hb dX5_advance_121 rfl (lv_at hl 1 rfl) ?_
      obtain ⟨h13, hf⟩ := chk_i hf
      refine s_cld hx hb hK hI (mE hE.1 eC_115) (inB_i h13) dX5_advance_122 ?_
      refine lv_bipush (v := 57) hx hb dX5_advance_123 (by decide) ?_
      refine lv_icmp_gt (tgt := 135) hx hb dX5_advance_125 (by decide) (fun c14 => ?_) (fun c14 => ?_)
      · have hf := ite_t c14 hf
        refine lv_aload_n hx hb dX5_advance_135 rfl (lv_at hl 0 rfl) ?_
        obtain ⟨G15, h16, hf⟩ := bndO_i hf
        refine s_afV hI (s_runV (rest := []) (As := []) (np := 0) E hK hI (s_B hcl hBs hI) hcl.2 (mE hE.1 eC_114) rfl (c_X5_readSign l D K sh ad cy X B hcl S hE adK adV hSB G L O  h16) kyX5_readSign u2_38 u2_40 up_4 (by decide) rfl hl.1 rfl (Nat.le_of_ble_eq_true rfl) ⟨Nat.zero_le _, Nat.zero_le _⟩ dX5_advance_136) (fun H locs hI => ?_)
        cases hf
        exact s_vret hx hb hr hI.2.2 hI.1 hlocks dX5_advance_139
      · have hf := ite_f c14 hf
        refine lv_aload_n hx hb dX5_advance_128 rfl (lv_at hl 0 rfl) ?_
        obtain ⟨G17, h18, hf⟩ := bndO_i hf
        refine s_afV hI (s_runV (rest := []) (As := []) (np := 0) E hK hI (s_B hcl hBs hI) hcl.2 (mE hE.1 eC_114) rfl (c_X5_readNumber l D K sh ad cy X B hcl S hE G L O  h18) kyX5_readNumber u2_34 u2_36 up_3 (by decide) rfl hl.1 rfl (Nat.le_of_ble_eq_true rfl) ⟨Nat.zero_le _, Nat.zero_le _⟩ dX5_advance_129) (fun H locs hI => ?_)
        refine lv_goto (tgt := 139) hx hb dX5_advance_132 (by decide) ?_
        cases hf
        exact s_vret hx hb hr hI.2.2 hI.1 hlocks dX5_advance_139
  have B53 : ∀    (G : Mem) (x1 : Int32) (H : Heap) (locs : List Loc) (ls : Array Slot), lv_has ls 3 [(0, .ref (ad 114)), (1, .int x1)] → IS D K sh ad cy X (AS K ad X) s.heap H locs G L O → j_X5_advance_53 G x1 = some Gz → W p l e (rmX 7 0 0) s m args below meth c H locs 0 0 (MQ below (QV (AS K ad X) (PH D K sh ad cy X Gz L O)) args s 0 0 (AS K ad X)) (F0 m 53 ls []) := by
    intro  G x1 H locs ls hl hI hf
    rw [j_X5_advance_53] at hf
    refine lv_aload_n hx hb dX5_advance_53 rfl (lv_at hl 0 rfl) ?_
    refine lv_iload_n hx hb dX5_advance_54 rfl (lv_at hl 1 rfl) ?_
    obtain ⟨G3, eG3, hf⟩ := bnd_i hf
    refine s_put (ty := .int) hx hb hu inU5 tyX5_ok nmX5 hown hK hI (mE hE.1 eC_114) rfl 4 (by decide) u1_95 (fun _ h => h) rfl rfl (tyX5_ok 4 (by decide)) rfl rfl eG3 dX5_advance_55 (fun H locs hI => ?_)
    refine lv_aload_n hx hb dX5_advance_58 rfl (lv_at hl 0 rfl) ?_
    refine lv_iload_n hx hb dX5_advance_59 rfl (lv_at hl 1 rfl) ?_
    obtain ⟨G4, eG4, hf⟩ := bnd_i hf
    refine s_put (ty := .int) hx hb hu inU5 tyX5_ok nmX5 hown hK hI (mE hE.1 eC_114) rfl 3 (by decide) u1_93 (fun _ h => h) rfl rfl (tyX5_ok 3 (by decide)) rfl rfl eG4 dX5_advance_60 (fun H locs hI => ?_)
    refine lv_aload_n hx hb dX5_advance_63 rfl (lv_at hl 0 rfl) ?_
    refine lv_bipush (v := 9) hx hb dX5_advance_64 (by decide) ?_
    obtain ⟨G5, eG5, hf⟩ := bnd_i hf
    refine s_put (ty := .int) hx hb hu inU5 tyX5_ok nmX5 hown hK hI (mE hE.1 eC_114) rfl 5 (by decide) u1_96 (fun _ h => h) rfl rfl (tyX5_ok 5 (by decide)) rfl rfl eG5 dX5_advance_66 (fun H locs hI => ?_)
    refine lv_iload_n hx hb dX5_advance_69 rfl (lv_at hl 1 rfl) ?_
    refine lv_aload_n hx hb dX5_advance_70 rfl (lv_at hl 0 rfl) ?_
    refine s_get (v := .int (G5 114 2)) hx hb hu inU5 hown hK hI (mE hE.1 eC_114) rfl 2 (by decide) u1_91 (fun _ h => h) rfl rfl dX5_advance_71 ?_
    refine lv_icmp_ge (tgt := 139) hx hb dX5_advance_74 (by decide) (fun c6 => ?_) (fun c6 => ?_)
    · have hf := ite_t c6 hf
      cases hf
      exact s_vret hx hb hr hI.2.2 hI.1 hlocks dX5_advance_139
    · have hf := ite_f c6 hf
      refine lv_aload_n hx hb dX5_advance_77 rfl (lv_at hl 0 rfl) ?_
      refine s_get (v := .ref (ad 115)) hx hb hu inU5 hown hK hI (mE hE.1 eC_114) rfl 0 (by decide) u1_89 (fun _ h => h) rfl rfl dX5_advance_78 ?_
      refine lv_iload_n hx hb dX5_advance_81 rfl (lv_at hl 1 rfl) ?_
      obtain ⟨h7, hf⟩ := chk_i hf
      refine s_cld hx hb hK hI (mE hE.1 eC_115) (inB_i h7) dX5_advance_82 ?_
      refine lv_bipush (v := 97) hx hb dX5_advance_83 (by decide) ?_
      refine lv_icmp_lt (tgt := 106) hx hb dX5_advance_85 (by decide) (fun c8 => ?_) (fun c8 => ?_)
      · have hf := ite_t c8 hf
        exact B106    G5 x1 H locs ls (lv_sub hl [0, 1] rfl) hI hf
      · have hf := ite_f c8 hf
        refine lv_aload_n hx hb dX5_advance_88 rfl (lv_at hl 0 rfl) ?_
        refine s_get (v := .ref (ad 115)) hx hb hu inU5 hown hK hI (mE hE.1 eC_114) rfl 0 (by decide) u1_89 (fun _ h => h) rfl rfl dX5_advance_89 ?_
        refine lv_iload_n hx hb dX5_advance_92 rfl (lv_at hl 1 rfl) ?_
        obtain ⟨h19, hf⟩ := chk_i hf
        refine s_cld hx hb hK hI (mE hE.1 eC_115) (inB_i h19) dX5_advance_93 ?_
        refine lv_bipush (v := 122) hx hb dX5_advance_94 (by decide) ?_
        refine lv_icmp_gt (tgt := 106) hx hb dX5_advance_96 (by decide) (fun c20 => ?_) (fun c20 => ?_)
        · have hf := ite_t c20 hf
          exact B106    G5 x1 H locs ls (lv_sub hl [0, 1] rfl) hI hf
        · have hf := ite_f c20 hf
          refine lv_aload_n hx hb dX5_advance_99 rfl (lv_at hl 0 rfl) ?_
          obtain ⟨G21, h22, hf⟩ := bndO_i hf
          refine s_afV hI (s_runV (rest := []) (As := []) (np := 0) E hK hI (s_B hcl hBs hI) hcl.2 (mE hE.1 eC_114) rfl (c_X5_readWord l D K sh ad cy X B hcl S hE adK adV hSB G5 L O  h22) kyX5_readWord u2_21 u2_23 up_1 (by decide) rfl hl.1 rfl (Nat.le_of_ble_eq_true rfl) ⟨Nat.zero_le _, Nat.zero_le _⟩ dX5_advance_100) (fun H locs hI => ?_)
          refine lv_goto (tgt := 139) hx hb dX5_advance_103 (by decide) ?_
          cases hf
          exact s_vret hx hb hr hI.2.2 hI.1 hlocks dX5_advance_139
  have B7 : ∀   (n : Nat) (G : Mem) (x1 : Int32) (x2 : Int32) (H : Heap) (locs : List Loc) (ls : Array Slot), lv_has ls 3 [(0, .ref (ad 114)), (1, .int x1), (2, .int x2)] → IS D K sh ad cy X (AS K ad X) s.heap H locs G L O → iter (q_X5_advance_7) n (G, x1, x2) = some Gz → W p l e (rmX 7 0 0) s m args below meth c H locs 0 0 (MQ below (QV (AS K ad X) (PH D K sh ad cy X Gz L O)) args s 0 0 (AS K ad X)) (F0 m 7 ls []) := by
    intro n
    induction n with
    | zero => intro G x1 x2 H locs ls hl hI hf; exact iter_0 hf
    | succ n ih =>
      intro G x1 x2 H locs ls hl hI hf
      have hf : q_X5_advance_7 (iter (q_X5_advance_7) n) (G, x1, x2) = some Gz := hf
      rw [q_X5_advance_7] at hf
      refine lv_iload_n hx hb dX5_advance_7 rfl (lv_at hl 2 rfl) ?_
      refine lv_sipush (v := 160) hx hb dX5_advance_8 (by decide) ?_
      refine lv_icmp_ge (tgt := 53) hx hb dX5_advance_11 (by decide) (fun c2 => ?_) (fun c2 => ?_)
      · have hf := ite_t c2 hf
        exact B53    G x1 H locs ls (lv_sub hl [0, 1] rfl) hI hf
      · have hf := ite_f c2 hf
        refine lv_iload_n hx hb dX5_advance_14 rfl (lv_at hl 1 rfl) ?_
        refine lv_aload_n hx hb dX5_advance_15 rfl (lv_at hl 0 rfl) ?_
        refine s_get (v := .int (G 114 2)) hx hb hu inU5 hown hK hI (mE hE.1 eC_114) rfl 2 (by decide) u1_91 (fun _ h => h) rfl rfl dX5_advance_16 ?_
        refine lv_icmp_ge (tgt := 53) hx hb dX5_advance_19 (by decide) (fun c23 => ?_) (fun c23 => ?_)
        · have hf := ite_t c23 hf
          exact B53    G x1 H locs ls (lv_sub hl [0, 1] rfl) hI hf
        · have hf := ite_f c23 hf
          refine lv_aload_n hx hb dX5_advance_22 rfl (lv_at hl 0 rfl) ?_
          refine s_get (v := .ref (ad 115)) hx hb hu inU5 hown hK hI (mE hE.1 eC_114) rfl 0 (by decide) u1_89 (fun _ h => h) rfl rfl dX5_advance_23 ?_
          refine lv_iload_n hx hb dX5_advance_26 rfl (lv_at hl 1 rfl) ?_
          obtain ⟨h24, hf⟩ := chk_i hf
          refine s_cld hx hb hK hI (mE hE.1 eC_115) (inB_i h24) dX5_advance_27 ?_
          refine lv_bipush (v := 32) hx hb dX5_advance_28 (by decide) ?_
          refine lv_icmp_eq (tgt := 44) hx hb dX5_advance_30 (by decide) (fun c25 => ?_) (fun c25 => ?_)
          · have hf := ite_t c25 hf
            obtain ⟨x1_26, ex1_26, hf⟩ := bnd_i hf
            refine lv_iinc (v := x1_26) (lv' := [(1, .int x1_26), (0, .ref (ad 114)), (2, .int x2)]) hx hb dX5_advance_44 hl (k := 1) rfl (by rw [ex1_26]; rfl) (by decide) rfl (fun ls hl => ?_)
            obtain ⟨x2_27, ex2_27, hf⟩ := bnd_i hf
            refine lv_iinc (v := x2_27) (lv' := [(2, .int x2_27), (1, .int x1_26), (0, .ref (ad 114))]) hx hb dX5_advance_47 hl (k := 2) rfl (by rw [ex2_27]; rfl) (by decide) rfl (fun ls hl => ?_)
            refine lv_goto (tgt := 7) hx hb dX5_advance_50 (by decide) ?_
            exact ih G x1_26 x2_27 H locs ls (lv_sub hl [2, 1, 0] rfl) hI hf
          · have hf := ite_f c25 hf
            refine lv_aload_n hx hb dX5_advance_33 rfl (lv_at hl 0 rfl) ?_
            refine s_get (v := .ref (ad 115)) hx hb hu inU5 hown hK hI (mE hE.1 eC_114) rfl 0 (by decide) u1_89 (fun _ h => h) rfl rfl dX5_advance_34 ?_
            refine lv_iload_n hx hb dX5_advance_37 rfl (lv_at hl 1 rfl) ?_
            obtain ⟨h28, hf⟩ := chk_i hf
            refine s_cld hx hb hK hI (mE hE.1 eC_115) (inB_i h28) dX5_advance_38 ?_
            refine lv_bipush (v := 10) hx hb dX5_advance_39 (by decide) ?_
            refine lv_icmp_ne (tgt := 53) hx hb dX5_advance_41 (by decide) (fun c29 => ?_) (fun c29 => ?_)
            · have hf := ite_f c29 hf
              exact B53    G x1 H locs ls (lv_sub hl [0, 1] rfl) hI hf
            · have hf := ite_t c29 hf
              obtain ⟨x1_30, ex1_30, hf⟩ := bnd_i hf
              refine lv_iinc (v := x1_30) (lv' := [(1, .int x1_30), (0, .ref (ad 114)), (2, .int x2)]) hx hb dX5_advance_44 hl (k := 1) rfl (by rw [ex1_30]; rfl) (by decide) rfl (fun ls hl => ?_)
              obtain ⟨x2_31, ex2_31, hf⟩ := bnd_i hf
              refine lv_iinc (v := x2_31) (lv' := [(2, .int x2_31), (1, .int x1_30), (0, .ref (ad 114))]) hx hb dX5_advance_47 hl (k := 2) rfl (by rw [ex2_31]; rfl) (by decide) rfl (fun ls hl => ?_)
              refine lv_goto (tgt := 7) hx hb dX5_advance_50 (by decide) ?_
              exact ih G x1_30 x2_31 H locs ls (lv_sub hl [2, 1, 0] rfl) hI hf
  rw [f_X5_advance] at hf
  refine lv_aload_n hx hb dX5_advance_0 rfl (lv_at hl 0 rfl) ?_
  refine s_get (v := .int (G 114 3)) hx hb hu inU5 hown hK hI (mE hE.1 eC_114) rfl 3 (by decide) u1_93 (fun _ h => h) rfl rfl dX5_advance_1 ?_
  obtain ⟨x1_1, ex1_1, hf⟩ := bnd_i hf
  refine s_nmI ex1_1 ?_
  refine lv_istore_n (lv' := [(1, .int x1_1), (0, .ref (ad 114))]) hx hb dX5_advance_4 rfl hl (by decide) rfl (fun ls hl => ?_)
  refine lv_iconst (v := 0) hx hb dX5_advance_5 (by decide) ?_
  refine lv_istore_n (lv' := [(2, .int 0), (1, .int x1_1), (0, .ref (ad 114))]) hx hb dX5_advance_6 rfl hl (by decide) rfl (fun ls hl => ?_)
  exact B7   fuel G x1_1 0 H locs ls (lv_sub hl [2, 1, 0] rfl) hI hf
noncomputable def f_X5_pass (G : Mem) (x1 : Int32) : Option (Mem × Int32) := (if (G 114 5) = x1 then bndO (f_X5_advance G) (fun G2 => some (G2, 1)) else some (G, 0))
theorem kyX5_pass : Ky yX5_pass cX5_pass 2 (some FieldType.boolean) 1 := ⟨u2_103, u1_4, by decide, by decide, by decide, by decide +kernel⟩
set_option maxHeartbeats 4000000 in
set_option maxRecDepth 100000 in
theorem c_X5_pass (l : Launch) (D : va_G) (K : List Nat) (sh : Nat → Ent) (ad : Nat → Nat) (cy : Nat → ClassId) (X : va_W) (B : State → Prop) (hcl : Bcl (AS K ad X) B) (S : Nat → Nat) (hE : HC S K sh) (adK adV : Nat → Nat) (hSB : ∀ U : State, B U → SB adK adV (AS K ad X) U) (G : Mem) (L : MemL) (O : MemO) (x1 : Int32) {Gz : Mem} {vz : Int32} (hf : f_X5_pass G x1 = some (Gz, vz)) : Met l yX5_pass (wsU yX5_pass cX5_pass 2 (some FieldType.boolean)) (rmX 8 0 0) (va_Pc [.ref (ad 114), .int x1] (PS D K sh ad cy X B G L O)) (QI (AS K ad X) (PH D K sh ad cy X Gz L O) vz) 0 0 (AS K ad X) := by
  refine s_met (by decide) (Nat.le_of_ble_eq_true rfl) ?_
  intro p e s m args below meth c ls H locs E hK hBs hnm hI hl
  have hl : lv_has ls 2 [(0, .ref (ad 114)), (1, .int x1)] := hl
  have E : Cx p s m args meth c RX5 cX5_pass 2 (some FieldType.boolean) := E
  obtain ⟨hx, hb, hr, hml, hown, hu, hlocks⟩ := id E
  rw [f_X5_pass] at hf
  refine lv_aload_n hx hb dX5_pass_0 rfl (lv_at hl 0 rfl) ?_
  refine s_get (v := .int (G 114 5)) hx hb hu inU5 hown hK hI (mE hE.1 eC_114) rfl 5 (by decide) u1_96 (fun _ h => h) rfl rfl dX5_pass_1 ?_
  refine lv_iload_n hx hb dX5_pass_4 rfl (lv_at hl 1 rfl) ?_
  refine lv_icmp_eq (tgt := 10) hx hb dX5_pass_5 (by decide) (fun c1 => ?_) (fun c1 => ?_)
  · have hf := ite_t c1 hf
    refine lv_aload_n hx hb dX5_pass_10 rfl (lv_at hl 0 rfl) ?_
    obtain ⟨G2, h3, hf⟩ := bndO_i hf
    refine s_afV hI (s_runV (rest := []) (As := []) (np := 0) E hK hI (s_B hcl hBs hI) hcl.2 (mE hE.1 eC_114) rfl (c_X5_advance l D K sh ad cy X B hcl S hE adK adV hSB G L O  h3) kyX5_advance u2_17 u2_19 up_0 (by decide) rfl hl.1 rfl (Nat.le_of_ble_eq_true rfl) ⟨Nat.zero_le _, Nat.zero_le _⟩ dX5_pass_11) (fun H locs hI => ?_)
    refine lv_iconst (v := 1) hx hb dX5_pass_14 (by decide) ?_
    cases hf
    exact s_zret rfl hx hb hr hI.2.2 hI.1 hlocks dX5_pass_15
  · have hf := ite_f c1 hf
    refine lv_iconst (v := 0) hx hb dX5_pass_8 (by decide) ?_
    cases hf
    exact s_zret rfl hx hb hr hI.2.2 hI.1 hlocks dX5_pass_9
noncomputable def f_X5_enter (G : Mem) (x1 : Int32) : Option (Mem × Int32) := (if x1 < 5 then bndO (f_X5_advance G) (fun G2 => some (G2, 1)) else some (G, 0))
theorem kyX5_enter : Ky yX5_enter cX5_enter 2 (some FieldType.boolean) 1 := ⟨u2_119, u1_4, by decide, by decide, by decide, by decide +kernel⟩
set_option maxHeartbeats 4000000 in
set_option maxRecDepth 100000 in
theorem c_X5_enter (l : Launch) (D : va_G) (K : List Nat) (sh : Nat → Ent) (ad : Nat → Nat) (cy : Nat → ClassId) (X : va_W) (B : State → Prop) (hcl : Bcl (AS K ad X) B) (S : Nat → Nat) (hE : HC S K sh) (adK adV : Nat → Nat) (hSB : ∀ U : State, B U → SB adK adV (AS K ad X) U) (G : Mem) (L : MemL) (O : MemO) (x1 : Int32) {Gz : Mem} {vz : Int32} (hf : f_X5_enter G x1 = some (Gz, vz)) : Met l yX5_enter (wsU yX5_enter cX5_enter 2 (some FieldType.boolean)) (rmX 8 0 0) (va_Pc [.ref (ad 114), .int x1] (PS D K sh ad cy X B G L O)) (QI (AS K ad X) (PH D K sh ad cy X Gz L O) vz) 0 0 (AS K ad X) := by
  refine s_met (by decide) (Nat.le_of_ble_eq_true rfl) ?_
  intro p e s m args below meth c ls H locs E hK hBs hnm hI hl
  have hl : lv_has ls 2 [(0, .ref (ad 114)), (1, .int x1)] := hl
  have E : Cx p s m args meth c RX5 cX5_enter 2 (some FieldType.boolean) := E
  obtain ⟨hx, hb, hr, hml, hown, hu, hlocks⟩ := id E
  rw [f_X5_enter] at hf
  refine lv_iload_n hx hb dX5_enter_0 rfl (lv_at hl 1 rfl) ?_
  refine lv_iconst (v := 5) hx hb dX5_enter_1 (by decide) ?_
  refine lv_icmp_lt (tgt := 7) hx hb dX5_enter_2 (by decide) (fun c1 => ?_) (fun c1 => ?_)
  · have hf := ite_t c1 hf
    refine lv_aload_n hx hb dX5_enter_7 rfl (lv_at hl 0 rfl) ?_
    obtain ⟨G2, h3, hf⟩ := bndO_i hf
    refine s_afV hI (s_runV (rest := []) (As := []) (np := 0) E hK hI (s_B hcl hBs hI) hcl.2 (mE hE.1 eC_114) rfl (c_X5_advance l D K sh ad cy X B hcl S hE adK adV hSB G L O  h3) kyX5_advance u2_17 u2_19 up_0 (by decide) rfl hl.1 rfl (Nat.le_of_ble_eq_true rfl) ⟨Nat.zero_le _, Nat.zero_le _⟩ dX5_enter_8) (fun H locs hI => ?_)
    refine lv_iconst (v := 1) hx hb dX5_enter_11 (by decide) ?_
    cases hf
    exact s_zret rfl hx hb hr hI.2.2 hI.1 hlocks dX5_enter_12
  · have hf := ite_f c1 hf
    refine lv_iconst (v := 0) hx hb dX5_enter_5 (by decide) ?_
    cases hf
    exact s_zret rfl hx hb hr hI.2.2 hI.1 hlocks dX5_enter_6
def ihR (rc : Nat → Mem → Int32 → Option (Mem × Int32)) (d : Nat) : Prop := ∀ (l : Launch) (D : va_G) (K : List Nat) (sh : Nat → Ent) (ad : Nat → Nat) (cy : Nat → ClassId) (X : va_W) (B : State → Prop) (hcl : Bcl (AS K ad X) B) (S : Nat → Nat) (hE : HC S K sh) (adK adV : Nat → Nat) (hSB : ∀ U : State, B U → SB adK adV (AS K ad X) U) (G : Mem) (L : MemL) (O : MemO) (x1 : Int32) (Gz : Mem) (vz : Int32), (rc 0 G x1 = some (Gz, vz) → Met l yX5_either (wsU yX5_either cX5_either 4 (some FieldType.boolean)) (rmX (d + 8) 0 0) (va_Pc [.ref (ad 114), .int x1] (PS D K sh ad cy X B G L O)) (QI (AS K ad X) (PH D K sh ad cy X Gz L O) vz) 0 0 (AS K ad X)) ∧ (rc 1 G x1 = some (Gz, vz) → Met l yX5_both (wsU yX5_both cX5_both 4 (some FieldType.boolean)) (rmX (d + 8) 0 0) (va_Pc [.ref (ad 114), .int x1] (PS D K sh ad cy X B G L O)) (QI (AS K ad X) (PH D K sh ad cy X Gz L O) vz) 0 0 (AS K ad X)) ∧ (rc 2 G x1 = some (Gz, vz) → Met l yX5_negated (wsU yX5_negated cX5_negated 3 (some FieldType.boolean)) (rmX (d + 8) 0 0) (va_Pc [.ref (ad 114), .int x1] (PS D K sh ad cy X B G L O)) (QI (AS K ad X) (PH D K sh ad cy X Gz L O) vz) 0 0 (AS K ad X)) ∧ (rc 3 G x1 = some (Gz, vz) → Met l yX5_sum (wsU yX5_sum cX5_sum 5 (some FieldType.boolean)) (rmX (d + 8) 0 0) (va_Pc [.ref (ad 114), .int x1] (PS D K sh ad cy X B G L O)) (QI (AS K ad X) (PH D K sh ad cy X Gz L O) vz) 0 0 (AS K ad X)) ∧ (rc 4 G x1 = some (Gz, vz) → Met l yX5_product (wsU yX5_product cX5_product 4 (some FieldType.boolean)) (rmX (d + 8) 0 0) (va_Pc [.ref (ad 114), .int x1] (PS D K sh ad cy X B G L O)) (QI (AS K ad X) (PH D K sh ad cy X Gz L O) vz) 0 0 (AS K ad X)) ∧ (rc 5 G x1 = some (Gz, vz) → Met l yX5_one (wsU yX5_one cX5_one 2 (some FieldType.boolean)) (rmX (d + 8) 0 0) (va_Pc [.ref (ad 114), .int x1] (PS D K sh ad cy X B G L O)) (QI (AS K ad X) (PH D K sh ad cy X Gz L O) vz) 0 0 (AS K ad X))
theorem kyX5_either : Ky yX5_either cX5_either 4 (some FieldType.boolean) 1 := ⟨u2_107, u1_4, by decide, by decide, by decide, by decide +kernel⟩
theorem kyX5_both : Ky yX5_both cX5_both 4 (some FieldType.boolean) 1 := ⟨u2_111, u1_4, by decide, by decide, by decide, by decide +kernel⟩
theorem kyX5_negated : Ky yX5_negated cX5_negated 3 (some FieldType.boolean) 1 := ⟨u2_115, u1_4, by decide, by decide, by decide, by decide +kernel⟩
theorem kyX5_sum : Ky yX5_sum cX5_sum 5 (some FieldType.boolean) 1 := ⟨u2_127, u1_4, by decide, by decide, by decide, by decide +kernel⟩
theorem kyX5_product : Ky yX5_product cX5_product 4 (some FieldType.boolean) 1 := ⟨u2_131, u1_4, by decide, by decide, by decide, by decide +kernel⟩
theorem kyX5_one : Ky yX5_one cX5_one 2 (some FieldType.boolean) 1 := ⟨u2_135, u1_4, by decide, by decide, by decide, by decide +kernel⟩
noncomputable def q_X5_either_8 (rc : Nat → Mem → Int32 → Option (Mem × Int32)) (x1 : Int32)  (rec : (Mem × Int32 × Int32) → Option (Mem × Int32)) : (Mem × Int32 × Int32) → Option (Mem × Int32) := fun (G, x2, x3) => (if 160 ≤ x3 then chk (isB x2) (some (G, x2)) else (if x2 = 0 then chk (isB x2) (some (G, x2)) else (if (G 114 5) = 3 then bndO (f_X5_advance G) (fun G10 => bndP (rc 1 G10 x1) (fun G12 v13 => bndP (f_X5_emit G12 3 0) (fun G15 v16 => bnd (x3 + 1) (fun x3_18 => rec (G15, v13, x3_18))))) else chk (isB x2) (some (G, x2)))))
noncomputable def f_X5_either (rc : Nat → Mem → Int32 → Option (Mem × Int32)) (G : Mem) (x1 : Int32) : Option (Mem × Int32) := bndP (rc 1 G x1) (fun G1 v2 => iter (q_X5_either_8 rc x1) fuel (G1, v2, 0))
set_option maxHeartbeats 4000000 in
set_option maxRecDepth 100000 in
theorem c_X5_either (rc : Nat → Mem → Int32 → Option (Mem × Int32)) (d : Nat) (ihg : ihR rc d) (l : Launch) (D : va_G) (K : List Nat) (sh : Nat → Ent) (ad : Nat → Nat) (cy : Nat → ClassId) (X : va_W) (B : State → Prop) (hcl : Bcl (AS K ad X) B) (S : Nat → Nat) (hE : HC S K sh) (adK adV : Nat → Nat) (hSB : ∀ U : State, B U → SB adK adV (AS K ad X) U) (G : Mem) (L : MemL) (O : MemO) (x1 : Int32) {Gz : Mem} {vz : Int32} (hf : f_X5_either rc G x1 = some (Gz, vz)) : Met l yX5_either (wsU yX5_either cX5_either 4 (some FieldType.boolean)) (rmX (d + 1 + 8) 0 0) (va_Pc [.ref (ad 114), .int x1] (PS D K sh ad cy X B G L O)) (QI (AS K ad X) (PH D K sh ad cy X Gz L O) vz) 0 0 (AS K ad X) := by
  refine s_met (by decide) (Nat.le_of_ble_eq_true rfl) ?_
  intro p e s m args below meth c ls H locs E hK hBs hnm hI hl
  have hl : lv_has ls 4 [(0, .ref (ad 114)), (1, .int x1)] := hl
  have E : Cx p s m args meth c RX5 cX5_either 4 (some FieldType.boolean) := E
  obtain ⟨hx, hb, hr, hml, hown, hu, hlocks⟩ := id E
  have B8 : ∀   (n : Nat) (G : Mem) (x2 : Int32) (x3 : Int32) (H : Heap) (locs : List Loc) (ls : Array Slot), lv_has ls 4 [(0, .ref (ad 114)), (1, .int x1), (2, .int x2), (3, .int x3)] → IS D K sh ad cy X (AS K ad X) s.heap H locs G L O → iter (q_X5_either_8 rc x1) n (G, x2, x3) = some (Gz, vz) → W p l e (rmX (d + 1 + 8) 0 0) s m args below meth c H locs 0 0 (MQ below (QI (AS K ad X) (PH D K sh ad cy X Gz L O) vz) args s 0 0 (AS K ad X)) (F0 m 8 ls []) := by
    intro n
    induction n with
    | zero => intro G x2 x3 H locs ls hl hI hf; exact iter_0 hf
    | succ n ih =>
      intro G x2 x3 H locs ls hl hI hf
      have hf : q_X5_either_8 rc x1 (iter (q_X5_either_8 rc x1) n) (G, x2, x3) = some (Gz, vz) := hf
      rw [q_X5_either_8] at hf
      refine lv_iload_n hx hb dX5_either_8 rfl (lv_at hl 3 rfl) ?_
      refine lv_sipush (v := 160) hx hb dX5_either_9 (by decide) ?_
      refine lv_icmp_ge (tgt := 50) hx hb dX5_either_12 (by decide) (fun c4 => ?_) (fun c4 => ?_)
      · have hf := ite_t c4 hf
        refine lv_iload_n hx hb dX5_either_50 rfl (lv_at hl 2 rfl) ?_
        obtain ⟨h5, hf⟩ := chk_i hf
        cases hf
        exact s_zret (isB_i h5) hx hb hr hI.2.2 hI.1 hlocks dX5_either_51
      · have hf := ite_f c4 hf
        refine lv_iload_n hx hb dX5_either_15 rfl (lv_at hl 2 rfl) ?_
        refine lv_if_eq (tgt := 50) hx hb dX5_either_16 (by decide) (fun c6 => ?_) (fun c6 => ?_)
        · have hf := ite_t c6 hf
          refine lv_iload_n hx hb dX5_either_50 rfl (lv_at hl 2 rfl) ?_
          obtain ⟨h7, hf⟩ := chk_i hf
          cases hf
          exact s_zret (isB_i h7) hx hb hr hI.2.2 hI.1 hlocks dX5_either_51
        · have hf := ite_f c6 hf
          refine lv_aload_n hx hb dX5_either_19 rfl (lv_at hl 0 rfl) ?_
          refine s_get (v := .int (G 114 5)) hx hb hu inU5 hown hK hI (mE hE.1 eC_114) rfl 5 (by decide) u1_96 (fun _ h => h) rfl rfl dX5_either_20 ?_
          refine lv_iconst (v := 3) hx hb dX5_either_23 (by decide) ?_
          refine lv_icmp_ne (tgt := 50) hx hb dX5_either_24 (by decide) (fun c8 => ?_) (fun c8 => ?_)
          · have hf := ite_f c8 hf
            refine lv_iload_n hx hb dX5_either_50 rfl (lv_at hl 2 rfl) ?_
            obtain ⟨h9, hf⟩ := chk_i hf
            cases hf
            exact s_zret (isB_i h9) hx hb hr hI.2.2 hI.1 hlocks dX5_either_51
          · have hf := ite_t c8 hf
            refine lv_aload_n hx hb dX5_either_27 rfl (lv_at hl 0 rfl) ?_
            obtain ⟨G10, h11, hf⟩ := bndO_i hf
            refine s_afV hI (s_runV (rest := []) (As := []) (np := 0) E hK hI (s_B hcl hBs hI) hcl.2 (mE hE.1 eC_114) rfl (c_X5_advance l D K sh ad cy X B hcl S hE adK adV hSB G L O  h11) kyX5_advance u2_17 u2_19 up_0 (by omega) rfl hl.1 rfl (Nat.le_of_ble_eq_true rfl) ⟨Nat.zero_le _, Nat.zero_le _⟩ dX5_either_28) (fun H locs hI => ?_)
            refine lv_aload_n hx hb dX5_either_31 rfl (lv_at hl 0 rfl) ?_
            refine lv_iload_n hx hb dX5_either_32 rfl (lv_at hl 1 rfl) ?_
            obtain ⟨G12, v13, h14, hf⟩ := bndP_i hf
            refine s_afI hI (s_runV (rest := []) (As := [.int x1]) (np := 1) E hK hI (s_B hcl hBs hI) hcl.2 (mE hE.1 eC_114) rfl ((ihg l D K sh ad cy X B hcl S hE adK adV hSB G10 L O x1 G12 v13).2.1 h14) kyX5_both u2_108 u2_110 up_7 (by omega) rfl hl.1 rfl (Nat.le_of_ble_eq_true rfl) ⟨Nat.zero_le _, Nat.zero_le _⟩ dX5_either_33) (fun H locs hI => ?_)
            refine lv_istore_n (lv' := [(2, .int v13), (0, .ref (ad 114)), (1, .int x1), (3, .int x3)]) hx hb dX5_either_36 rfl hl (by decide) rfl (fun ls hl => ?_)
            refine lv_aload_n hx hb dX5_either_37 rfl (lv_at hl 1 rfl) ?_
            refine lv_iconst (v := 3) hx hb dX5_either_38 (by decide) ?_
            refine lv_iconst (v := 0) hx hb dX5_either_39 (by decide) ?_
            obtain ⟨G15, v16, h17, hf⟩ := bndP_i hf
            refine s_afI hI (s_runV (rest := []) (As := [.int 3, .int 0]) (np := 2) E hK hI (s_B hcl hBs hI) hcl.2 (mE hE.1 eC_114) rfl (c_X5_emit l D K sh ad cy X B hcl S hE G12 L O 3 0 h17) kyX5_emit u2_120 u2_122 up_10 (by omega) rfl hl.1 rfl (Nat.le_of_ble_eq_true rfl) ⟨Nat.zero_le _, Nat.zero_le _⟩ dX5_either_40) (fun H locs hI => ?_)
            refine lv_pop hx hb dX5_either_43 rfl ?_
            obtain ⟨x3_18, ex3_18, hf⟩ := bnd_i hf
            refine lv_iinc (v := x3_18) (lv' := [(3, .int x3_18), (2, .int v13), (0, .ref (ad 114)), (1, .int x1)]) hx hb dX5_either_44 hl (k := 3) rfl (by rw [ex3_18]; rfl) (by decide) rfl (fun ls hl => ?_)
            refine lv_goto (tgt := 8) hx hb dX5_either_47 (by decide) ?_
            exact ih G15 v13 x3_18 H locs ls (lv_sub hl [2, 3, 1, 0] rfl) hI hf
  rw [f_X5_either] at hf
  refine lv_aload_n hx hb dX5_either_0 rfl (lv_at hl 0 rfl) ?_
  refine lv_iload_n hx hb dX5_either_1 rfl (lv_at hl 1 rfl) ?_
  obtain ⟨G1, v2, h3, hf⟩ := bndP_i hf
  refine s_afI hI (s_runV (rest := []) (As := [.int x1]) (np := 1) E hK hI (s_B hcl hBs hI) hcl.2 (mE hE.1 eC_114) rfl ((ihg l D K sh ad cy X B hcl S hE adK adV hSB G L O x1 G1 v2).2.1 h3) kyX5_both u2_108 u2_110 up_7 (by omega) rfl hl.1 rfl (Nat.le_of_ble_eq_true rfl) ⟨Nat.zero_le _, Nat.zero_le _⟩ dX5_either_2) (fun H locs hI => ?_)
  refine lv_istore_n (lv' := [(2, .int v2), (0, .ref (ad 114)), (1, .int x1)]) hx hb dX5_either_5 rfl hl (by decide) rfl (fun ls hl => ?_)
  refine lv_iconst (v := 0) hx hb dX5_either_6 (by decide) ?_
  refine lv_istore_n (lv' := [(3, .int 0), (2, .int v2), (0, .ref (ad 114)), (1, .int x1)]) hx hb dX5_either_7 rfl hl (by decide) rfl (fun ls hl => ?_)
  exact B8   fuel G1 v2 0 H locs ls (lv_sub hl [2, 3, 1, 0] rfl) hI hf
noncomputable def q_X5_both_8 (rc : Nat → Mem → Int32 → Option (Mem × Int32)) (x1 : Int32)  (rec : (Mem × Int32 × Int32) → Option (Mem × Int32)) : (Mem × Int32 × Int32) → Option (Mem × Int32) := fun (G, x2, x3) => (if 160 ≤ x3 then chk (isB x2) (some (G, x2)) else (if x2 = 0 then chk (isB x2) (some (G, x2)) else (if (G 114 5) = 4 then bndO (f_X5_advance G) (fun G10 => bndP (rc 2 G10 x1) (fun G12 v13 => bndP (f_X5_emit G12 4 0) (fun G15 v16 => bnd (x3 + 1) (fun x3_18 => rec (G15, v13, x3_18))))) else chk (isB x2) (some (G, x2)))))
noncomputable def f_X5_both (rc : Nat → Mem → Int32 → Option (Mem × Int32)) (G : Mem) (x1 : Int32) : Option (Mem × Int32) := bndP (rc 2 G x1) (fun G1 v2 => iter (q_X5_both_8 rc x1) fuel (G1, v2, 0))
set_option maxHeartbeats 4000000 in
set_option maxRecDepth 100000 in
theorem c_X5_both (rc : Nat → Mem → Int32 → Option (Mem × Int32)) (d : Nat) (ihg : ihR rc d) (l : Launch) (D : va_G) (K : List Nat) (sh : Nat → Ent) (ad : Nat → Nat) (cy : Nat → ClassId) (X : va_W) (B : State → Prop) (hcl : Bcl (AS K ad X) B) (S : Nat → Nat) (hE : HC S K sh) (adK adV : Nat → Nat) (hSB : ∀ U : State, B U → SB adK adV (AS K ad X) U) (G : Mem) (L : MemL) (O : MemO) (x1 : Int32) {Gz : Mem} {vz : Int32} (hf : f_X5_both rc G x1 = some (Gz, vz)) : Met l yX5_both (wsU yX5_both cX5_both 4 (some FieldType.boolean)) (rmX (d + 1 + 8) 0 0) (va_Pc [.ref (ad 114), .int x1] (PS D K sh ad cy X B G L O)) (QI (AS K ad X) (PH D K sh ad cy X Gz L O) vz) 0 0 (AS K ad X) := by
  refine s_met (by decide) (Nat.le_of_ble_eq_true rfl) ?_
  intro p e s m args below meth c ls H locs E hK hBs hnm hI hl
  have hl : lv_has ls 4 [(0, .ref (ad 114)), (1, .int x1)] := hl
  have E : Cx p s m args meth c RX5 cX5_both 4 (some FieldType.boolean) := E
  obtain ⟨hx, hb, hr, hml, hown, hu, hlocks⟩ := id E
  have B8 : ∀   (n : Nat) (G : Mem) (x2 : Int32) (x3 : Int32) (H : Heap) (locs : List Loc) (ls : Array Slot), lv_has ls 4 [(0, .ref (ad 114)), (1, .int x1), (2, .int x2), (3, .int x3)] → IS D K sh ad cy X (AS K ad X) s.heap H locs G L O → iter (q_X5_both_8 rc x1) n (G, x2, x3) = some (Gz, vz) → W p l e (rmX (d + 1 + 8) 0 0) s m args below meth c H locs 0 0 (MQ below (QI (AS K ad X) (PH D K sh ad cy X Gz L O) vz) args s 0 0 (AS K ad X)) (F0 m 8 ls []) := by
    intro n
    induction n with
    | zero => intro G x2 x3 H locs ls hl hI hf; exact iter_0 hf
    | succ n ih =>
      intro G x2 x3 H locs ls hl hI hf
      have hf : q_X5_both_8 rc x1 (iter (q_X5_both_8 rc x1) n) (G, x2, x3) = some (Gz, vz) := hf
      rw [q_X5_both_8] at hf
      refine lv_iload_n hx hb dX5_both_8 rfl (lv_at hl 3 rfl) ?_
      refine lv_sipush (v := 160) hx hb dX5_both_9 (by decide) ?_
      refine lv_icmp_ge (tgt := 50) hx hb dX5_both_12 (by decide) (fun c4 => ?_) (fun c4 => ?_)
      · have hf := ite_t c4 hf
        refine lv_iload_n hx hb dX5_both_50 rfl (lv_at hl 2 rfl) ?_
        obtain ⟨h5, hf⟩ := chk_i hf
        cases hf
        exact s_zret (isB_i h5) hx hb hr hI.2.2 hI.1 hlocks dX5_both_51
      · have hf := ite_f c4 hf
        refine lv_iload_n hx hb dX5_both_15 rfl (lv_at hl 2 rfl) ?_
        refine lv_if_eq (tgt := 50) hx hb dX5_both_16 (by decide) (fun c6 => ?_) (fun c6 => ?_)
        · have hf := ite_t c6 hf
          refine lv_iload_n hx hb dX5_both_50 rfl (lv_at hl 2 rfl) ?_
          obtain ⟨h7, hf⟩ := chk_i hf
          cases hf
          exact s_zret (isB_i h7) hx hb hr hI.2.2 hI.1 hlocks dX5_both_51
        · have hf := ite_f c6 hf
          refine lv_aload_n hx hb dX5_both_19 rfl (lv_at hl 0 rfl) ?_
          refine s_get (v := .int (G 114 5)) hx hb hu inU5 hown hK hI (mE hE.1 eC_114) rfl 5 (by decide) u1_96 (fun _ h => h) rfl rfl dX5_both_20 ?_
          refine lv_iconst (v := 4) hx hb dX5_both_23 (by decide) ?_
          refine lv_icmp_ne (tgt := 50) hx hb dX5_both_24 (by decide) (fun c8 => ?_) (fun c8 => ?_)
          · have hf := ite_f c8 hf
            refine lv_iload_n hx hb dX5_both_50 rfl (lv_at hl 2 rfl) ?_
            obtain ⟨h9, hf⟩ := chk_i hf
            cases hf
            exact s_zret (isB_i h9) hx hb hr hI.2.2 hI.1 hlocks dX5_both_51
          · have hf := ite_t c8 hf
            refine lv_aload_n hx hb dX5_both_27 rfl (lv_at hl 0 rfl) ?_
            obtain ⟨G10, h11, hf⟩ := bndO_i hf
            refine s_afV hI (s_runV (rest := []) (As := []) (np := 0) E hK hI (s_B hcl hBs hI) hcl.2 (mE hE.1 eC_114) rfl (c_X5_advance l D K sh ad cy X B hcl S hE adK adV hSB G L O  h11) kyX5_advance u2_17 u2_19 up_0 (by omega) rfl hl.1 rfl (Nat.le_of_ble_eq_true rfl) ⟨Nat.zero_le _, Nat.zero_le _⟩ dX5_both_28) (fun H locs hI => ?_)
            refine lv_aload_n hx hb dX5_both_31 rfl (lv_at hl 0 rfl) ?_
            refine lv_iload_n hx hb dX5_both_32 rfl (lv_at hl 1 rfl) ?_
            obtain ⟨G12, v13, h14, hf⟩ := bndP_i hf
            refine s_afI hI (s_runV (rest := []) (As := [.int x1]) (np := 1) E hK hI (s_B hcl hBs hI) hcl.2 (mE hE.1 eC_114) rfl ((ihg l D K sh ad cy X B hcl S hE adK adV hSB G10 L O x1 G12 v13).2.2.1 h14) kyX5_negated u2_112 u2_114 up_8 (by omega) rfl hl.1 rfl (Nat.le_of_ble_eq_true rfl) ⟨Nat.zero_le _, Nat.zero_le _⟩ dX5_both_33) (fun H locs hI => ?_)
            refine lv_istore_n (lv' := [(2, .int v13), (0, .ref (ad 114)), (1, .int x1), (3, .int x3)]) hx hb dX5_both_36 rfl hl (by decide) rfl (fun ls hl => ?_)
            refine lv_aload_n hx hb dX5_both_37 rfl (lv_at hl 1 rfl) ?_
            refine lv_iconst (v := 4) hx hb dX5_both_38 (by decide) ?_
            refine lv_iconst (v := 0) hx hb dX5_both_39 (by decide) ?_
            obtain ⟨G15, v16, h17, hf⟩ := bndP_i hf
            refine s_afI hI (s_runV (rest := []) (As := [.int 4, .int 0]) (np := 2) E hK hI (s_B hcl hBs hI) hcl.2 (mE hE.1 eC_114) rfl (c_X5_emit l D K sh ad cy X B hcl S hE G12 L O 4 0 h17) kyX5_emit u2_120 u2_122 up_10 (by omega) rfl hl.1 rfl (Nat.le_of_ble_eq_true rfl) ⟨Nat.zero_le _, Nat.zero_le _⟩ dX5_both_40) (fun H locs hI => ?_)
            refine lv_pop hx hb dX5_both_43 rfl ?_
            obtain ⟨x3_18, ex3_18, hf⟩ := bnd_i hf
            refine lv_iinc (v := x3_18) (lv' := [(3, .int x3_18), (2, .int v13), (0, .ref (ad 114)), (1, .int x1)]) hx hb dX5_both_44 hl (k := 3) rfl (by rw [ex3_18]; rfl) (by decide) rfl (fun ls hl => ?_)
            refine lv_goto (tgt := 8) hx hb dX5_both_47 (by decide) ?_
            exact ih G15 v13 x3_18 H locs ls (lv_sub hl [2, 3, 1, 0] rfl) hI hf
  rw [f_X5_both] at hf
  refine lv_aload_n hx hb dX5_both_0 rfl (lv_at hl 0 rfl) ?_
  refine lv_iload_n hx hb dX5_both_1 rfl (lv_at hl 1 rfl) ?_
  obtain ⟨G1, v2, h3, hf⟩ := bndP_i hf
  refine s_afI hI (s_runV (rest := []) (As := [.int x1]) (np := 1) E hK hI (s_B hcl hBs hI) hcl.2 (mE hE.1 eC_114) rfl ((ihg l D K sh ad cy X B hcl S hE adK adV hSB G L O x1 G1 v2).2.2.1 h3) kyX5_negated u2_112 u2_114 up_8 (by omega) rfl hl.1 rfl (Nat.le_of_ble_eq_true rfl) ⟨Nat.zero_le _, Nat.zero_le _⟩ dX5_both_2) (fun H locs hI => ?_)
  refine lv_istore_n (lv' := [(2, .int v2), (0, .ref (ad 114)), (1, .int x1)]) hx hb dX5_both_5 rfl hl (by decide) rfl (fun ls hl => ?_)
  refine lv_iconst (v := 0) hx hb dX5_both_6 (by decide) ?_
  refine lv_istore_n (lv' := [(3, .int 0), (2, .int v2), (0, .ref (ad 114)), (1, .int x1)]) hx hb dX5_both_7 rfl hl (by decide) rfl (fun ls hl => ?_)
  exact B8   fuel G1 v2 0 H locs ls (lv_sub hl [2, 3, 1, 0] rfl) hI hf
noncomputable def j_X5_negated_71 (rc : Nat → Mem → Int32 → Option (Mem × Int32)) (x1 : Int32)  (G : Mem) : Option (Mem × Int32) := bnd (G 114 5) (fun x2_7 => bndO (f_X5_advance G) (fun G8 => bndP (rc 3 G8 x1) (fun G10 v11 => (if v11 = 0 then some (G10, 0) else bndP (f_X5_emit G10 x2_7 0) (fun G14 v15 => (if v15 = 0 then some (G14, 0) else some (G14, 1)))))))
noncomputable def f_X5_negated (rc : Nat → Mem → Int32 → Option (Mem × Int32)) (G : Mem) (x1 : Int32) : Option (Mem × Int32) := (if (G 114 5) = 5 then bndP (f_X5_enter G x1) (fun G19 v20 => (if v20 = 0 then some (G19, 0) else bndP (rc 2 G19 (x1 + 1)) (fun G23 v24 => (if v24 = 0 then some (G23, 0) else bndP (f_X5_emit G23 5 0) (fun G27 v28 => (if v28 = 0 then some (G27, 0) else some (G27, 1))))))) else bndP (rc 3 G x1) (fun G2 v3 => (if v3 = 0 then some (G2, 0) else (if (G2 114 5) = 60 then j_X5_negated_71 rc x1 G2 else (if (G2 114 5) = 61 then j_X5_negated_71 rc x1 G2 else some (G2, 1))))))
set_option maxHeartbeats 4000000 in
set_option maxRecDepth 100000 in
theorem c_X5_negated (rc : Nat → Mem → Int32 → Option (Mem × Int32)) (d : Nat) (ihg : ihR rc d) (l : Launch) (D : va_G) (K : List Nat) (sh : Nat → Ent) (ad : Nat → Nat) (cy : Nat → ClassId) (X : va_W) (B : State → Prop) (hcl : Bcl (AS K ad X) B) (S : Nat → Nat) (hE : HC S K sh) (adK adV : Nat → Nat) (hSB : ∀ U : State, B U → SB adK adV (AS K ad X) U) (G : Mem) (L : MemL) (O : MemO) (x1 : Int32) {Gz : Mem} {vz : Int32} (hf : f_X5_negated rc G x1 = some (Gz, vz)) : Met l yX5_negated (wsU yX5_negated cX5_negated 3 (some FieldType.boolean)) (rmX (d + 1 + 8) 0 0) (va_Pc [.ref (ad 114), .int x1] (PS D K sh ad cy X B G L O)) (QI (AS K ad X) (PH D K sh ad cy X Gz L O) vz) 0 0 (AS K ad X) := by
  refine s_met (by decide) (Nat.le_of_ble_eq_true rfl) ?_
  intro p e s m args below meth c ls H locs E hK hBs hnm hI hl
  have hl : lv_has ls 3 [(0, .ref (ad 114)), (1, .int x1)] := hl
  have E : Cx p s m args meth c RX5 cX5_negated 3 (some FieldType.boolean) := E
  obtain ⟨hx, hb, hr, hml, hown, hu, hlocks⟩ := id E
  have B71 : ∀    (G : Mem) (H : Heap) (locs : List Loc) (ls : Array Slot), lv_has ls 3 [(0, .ref (ad 114)), (1, .int x1)] → IS D K sh ad cy X (AS K ad X) s.heap H locs G L O → j_X5_negated_71 rc x1 G = some (Gz, vz) → W p l e (rmX (d + 1 + 8) 0 0) s m args below meth c H locs 0 0 (MQ below (QI (AS K ad X) (PH D K sh ad cy X Gz L O) vz) args s 0 0 (AS K ad X)) (F0 m 71 ls []) := by
    intro  G H locs ls hl hI hf
    rw [j_X5_negated_71] at hf
    refine lv_aload_n hx hb dX5_negated_71 rfl (lv_at hl 0 rfl) ?_
    refine s_get (v := .int (G 114 5)) hx hb hu inU5 hown hK hI (mE hE.1 eC_114) rfl 5 (by decide) u1_96 (fun _ h => h) rfl rfl dX5_negated_72 ?_
    obtain ⟨x2_7, ex2_7, hf⟩ := bnd_i hf
    refine s_nmI ex2_7 ?_
    refine lv_istore_n (lv' := [(2, .int x2_7), (0, .ref (ad 114)), (1, .int x1)]) hx hb dX5_negated_75 rfl hl (by decide) rfl (fun ls hl => ?_)
    refine lv_aload_n hx hb dX5_negated_76 rfl (lv_at hl 1 rfl) ?_
    obtain ⟨G8, h9, hf⟩ := bndO_i hf
    refine s_afV hI (s_runV (rest := []) (As := []) (np := 0) E hK hI (s_B hcl hBs hI) hcl.2 (mE hE.1 eC_114) rfl (c_X5_advance l D K sh ad cy X B hcl S hE adK adV hSB G L O  h9) kyX5_advance u2_17 u2_19 up_0 (by omega) rfl hl.1 rfl (Nat.le_of_ble_eq_true rfl) ⟨Nat.zero_le _, Nat.zero_le _⟩ dX5_negated_77) (fun H locs hI => ?_)
    refine lv_aload_n hx hb dX5_negated_80 rfl (lv_at hl 1 rfl) ?_
    refine lv_iload_n hx hb dX5_negated_81 rfl (lv_at hl 2 rfl) ?_
    obtain ⟨G10, v11, h12, hf⟩ := bndP_i hf
    refine s_afI hI (s_runV (rest := []) (As := [.int x1]) (np := 1) E hK hI (s_B hcl hBs hI) hcl.2 (mE hE.1 eC_114) rfl ((ihg l D K sh ad cy X B hcl S hE adK adV hSB G8 L O x1 G10 v11).2.2.2.1 h12) kyX5_sum u2_124 u2_126 up_11 (by omega) rfl hl.1 rfl (Nat.le_of_ble_eq_true rfl) ⟨Nat.zero_le _, Nat.zero_le _⟩ dX5_negated_82) (fun H locs hI => ?_)
    refine lv_if_eq (tgt := 101) hx hb dX5_negated_85 (by decide) (fun c13 => ?_) (fun c13 => ?_)
    · have hf := ite_t c13 hf
      refine lv_iconst (v := 0) hx hb dX5_negated_101 (by decide) ?_
      cases hf
      exact s_zret rfl hx hb hr hI.2.2 hI.1 hlocks dX5_negated_102
    · have hf := ite_f c13 hf
      refine lv_aload_n hx hb dX5_negated_88 rfl (lv_at hl 1 rfl) ?_
      refine lv_iload_n hx hb dX5_negated_89 rfl (lv_at hl 0 rfl) ?_
      refine lv_iconst (v := 0) hx hb dX5_negated_90 (by decide) ?_
      obtain ⟨G14, v15, h16, hf⟩ := bndP_i hf
      refine s_afI hI (s_runV (rest := []) (As := [.int x2_7, .int 0]) (np := 2) E hK hI (s_B hcl hBs hI) hcl.2 (mE hE.1 eC_114) rfl (c_X5_emit l D K sh ad cy X B hcl S hE G10 L O x2_7 0 h16) kyX5_emit u2_120 u2_122 up_10 (by omega) rfl hl.1 rfl (Nat.le_of_ble_eq_true rfl) ⟨Nat.zero_le _, Nat.zero_le _⟩ dX5_negated_91) (fun H locs hI => ?_)
      refine lv_if_eq (tgt := 101) hx hb dX5_negated_94 (by decide) (fun c17 => ?_) (fun c17 => ?_)
      · have hf := ite_t c17 hf
        refine lv_iconst (v := 0) hx hb dX5_negated_101 (by decide) ?_
        cases hf
        exact s_zret rfl hx hb hr hI.2.2 hI.1 hlocks dX5_negated_102
      · have hf := ite_f c17 hf
        refine lv_iconst (v := 1) hx hb dX5_negated_97 (by decide) ?_
        refine lv_goto (tgt := 102) hx hb dX5_negated_98 (by decide) ?_
        cases hf
        exact s_zret rfl hx hb hr hI.2.2 hI.1 hlocks dX5_negated_102
  rw [f_X5_negated] at hf
  refine lv_aload_n hx hb dX5_negated_0 rfl (lv_at hl 0 rfl) ?_
  refine s_get (v := .int (G 114 5)) hx hb hu inU5 hown hK hI (mE hE.1 eC_114) rfl 5 (by decide) u1_96 (fun _ h => h) rfl rfl dX5_negated_1 ?_
  refine lv_iconst (v := 5) hx hb dX5_negated_4 (by decide) ?_
  refine lv_icmp_ne (tgt := 41) hx hb dX5_negated_5 (by decide) (fun c1 => ?_) (fun c1 => ?_)
  · have hf := ite_f c1 hf
    refine lv_aload_n hx hb dX5_negated_41 rfl (lv_at hl 0 rfl) ?_
    refine lv_iload_n hx hb dX5_negated_42 rfl (lv_at hl 1 rfl) ?_
    obtain ⟨G2, v3, h4, hf⟩ := bndP_i hf
    refine s_afI hI (s_runV (rest := []) (As := [.int x1]) (np := 1) E hK hI (s_B hcl hBs hI) hcl.2 (mE hE.1 eC_114) rfl ((ihg l D K sh ad cy X B hcl S hE adK adV hSB G L O x1 G2 v3).2.2.2.1 h4) kyX5_sum u2_124 u2_126 up_11 (by omega) rfl hl.1 rfl (Nat.le_of_ble_eq_true rfl) ⟨Nat.zero_le _, Nat.zero_le _⟩ dX5_negated_43) (fun H locs hI => ?_)
    refine lv_if_ne (tgt := 51) hx hb dX5_negated_46 (by decide) (fun c5 => ?_) (fun c5 => ?_)
    · have hf := ite_f c5 hf
      refine lv_aload_n hx hb dX5_negated_51 rfl (lv_at hl 0 rfl) ?_
      refine s_get (v := .int (G2 114 5)) hx hb hu inU5 hown hK hI (mE hE.1 eC_114) rfl 5 (by decide) u1_96 (fun _ h => h) rfl rfl dX5_negated_52 ?_
      refine lv_bipush (v := 60) hx hb dX5_negated_55 (by decide) ?_
      refine lv_icmp_eq (tgt := 71) hx hb dX5_negated_57 (by decide) (fun c6 => ?_) (fun c6 => ?_)
      · have hf := ite_t c6 hf
        exact B71    G2 H locs ls (lv_sub hl [0, 1] rfl) hI hf
      · have hf := ite_f c6 hf
        refine lv_aload_n hx hb dX5_negated_60 rfl (lv_at hl 0 rfl) ?_
        refine s_get (v := .int (G2 114 5)) hx hb hu inU5 hown hK hI (mE hE.1 eC_114) rfl 5 (by decide) u1_96 (fun _ h => h) rfl rfl dX5_negated_61 ?_
        refine lv_bipush (v := 61) hx hb dX5_negated_64 (by decide) ?_
        refine lv_icmp_eq (tgt := 71) hx hb dX5_negated_66 (by decide) (fun c18 => ?_) (fun c18 => ?_)
        · have hf := ite_t c18 hf
          exact B71    G2 H locs ls (lv_sub hl [0, 1] rfl) hI hf
        · have hf := ite_f c18 hf
          refine lv_iconst (v := 1) hx hb dX5_negated_69 (by decide) ?_
          cases hf
          exact s_zret rfl hx hb hr hI.2.2 hI.1 hlocks dX5_negated_70
    · have hf := ite_t c5 hf
      refine lv_iconst (v := 0) hx hb dX5_negated_49 (by decide) ?_
      cases hf
      exact s_zret rfl hx hb hr hI.2.2 hI.1 hlocks dX5_negated_50
  · have hf := ite_t c1 hf
    refine lv_aload_n hx hb dX5_negated_8 rfl (lv_at hl 0 rfl) ?_
    refine lv_iload_n hx hb dX5_negated_9 rfl (lv_at hl 1 rfl) ?_
    obtain ⟨G19, v20, h21, hf⟩ := bndP_i hf
    refine s_afI hI (s_runV (rest := []) (As := [.int x1]) (np := 1) E hK hI (s_B hcl hBs hI) hcl.2 (mE hE.1 eC_114) rfl (c_X5_enter l D K sh ad cy X B hcl S hE adK adV hSB G L O x1 h21) kyX5_enter u2_116 u2_118 up_9 (by omega) rfl hl.1 rfl (Nat.le_of_ble_eq_true rfl) ⟨Nat.zero_le _, Nat.zero_le _⟩ dX5_negated_10) (fun H locs hI => ?_)
    refine lv_if_eq (tgt := 39) hx hb dX5_negated_13 (by decide) (fun c22 => ?_) (fun c22 => ?_)
    · have hf := ite_t c22 hf
      refine lv_iconst (v := 0) hx hb dX5_negated_39 (by decide) ?_
      cases hf
      exact s_zret rfl hx hb hr hI.2.2 hI.1 hlocks dX5_negated_40
    · have hf := ite_f c22 hf
      refine lv_aload_n hx hb dX5_negated_16 rfl (lv_at hl 0 rfl) ?_
      refine lv_iload_n hx hb dX5_negated_17 rfl (lv_at hl 1 rfl) ?_
      refine lv_iconst (v := 1) hx hb dX5_negated_18 (by decide) ?_
      refine lv_iadd hx hb dX5_negated_19 ?_
      obtain ⟨G23, v24, h25, hf⟩ := bndP_i hf
      refine s_afI hI (s_runV (rest := []) (As := [.int (x1 + 1)]) (np := 1) E hK hI (s_B hcl hBs hI) hcl.2 (mE hE.1 eC_114) rfl ((ihg l D K sh ad cy X B hcl S hE adK adV hSB G19 L O (x1 + 1) G23 v24).2.2.1 h25) kyX5_negated u2_112 u2_114 up_8 (by omega) rfl hl.1 rfl (Nat.le_of_ble_eq_true rfl) ⟨Nat.zero_le _, Nat.zero_le _⟩ dX5_negated_20) (fun H locs hI => ?_)
      refine lv_if_eq (tgt := 39) hx hb dX5_negated_23 (by decide) (fun c26 => ?_) (fun c26 => ?_)
      · have hf := ite_t c26 hf
        refine lv_iconst (v := 0) hx hb dX5_negated_39 (by decide) ?_
        cases hf
        exact s_zret rfl hx hb hr hI.2.2 hI.1 hlocks dX5_negated_40
      · have hf := ite_f c26 hf
        refine lv_aload_n hx hb dX5_negated_26 rfl (lv_at hl 0 rfl) ?_
        refine lv_iconst (v := 5) hx hb dX5_negated_27 (by decide) ?_
        refine lv_iconst (v := 0) hx hb dX5_negated_28 (by decide) ?_
        obtain ⟨G27, v28, h29, hf⟩ := bndP_i hf
        refine s_afI hI (s_runV (rest := []) (As := [.int 5, .int 0]) (np := 2) E hK hI (s_B hcl hBs hI) hcl.2 (mE hE.1 eC_114) rfl (c_X5_emit l D K sh ad cy X B hcl S hE G23 L O 5 0 h29) kyX5_emit u2_120 u2_122 up_10 (by omega) rfl hl.1 rfl (Nat.le_of_ble_eq_true rfl) ⟨Nat.zero_le _, Nat.zero_le _⟩ dX5_negated_29) (fun H locs hI => ?_)
        refine lv_if_eq (tgt := 39) hx hb dX5_negated_32 (by decide) (fun c30 => ?_) (fun c30 => ?_)
        · have hf := ite_t c30 hf
          refine lv_iconst (v := 0) hx hb dX5_negated_39 (by decide) ?_
          cases hf
          exact s_zret rfl hx hb hr hI.2.2 hI.1 hlocks dX5_negated_40
        · have hf := ite_f c30 hf
          refine lv_iconst (v := 1) hx hb dX5_negated_35 (by decide) ?_
          refine lv_goto (tgt := 40) hx hb dX5_negated_36 (by decide) ?_
          cases hf
          exact s_zret rfl hx hb hr hI.2.2 hI.1 hlocks dX5_negated_40
noncomputable def j_X5_sum_37 (rc : Nat → Mem → Int32 → Option (Mem × Int32)) (x1 : Int32) (k8 : (Mem × Int32 × Int32) → Option (Mem × Int32)) (G : Mem) (x3 : Int32) : Option (Mem × Int32) := bnd (G 114 5) (fun x4_9 => bndO (f_X5_advance G) (fun G10 => bndP (rc 4 G10 x1) (fun G12 v13 => bndP (f_X5_emit G12 x4_9 0) (fun G15 v16 => bnd (x3 + 1) (fun x3_18 => k8 (G15, v13, x3_18))))))
noncomputable def q_X5_sum_8 (rc : Nat → Mem → Int32 → Option (Mem × Int32)) (x1 : Int32)  (rec : (Mem × Int32 × Int32) → Option (Mem × Int32)) : (Mem × Int32 × Int32) → Option (Mem × Int32) := fun (G, x2, x3) => (if 160 ≤ x3 then chk (isB x2) (some (G, x2)) else (if x2 = 0 then chk (isB x2) (some (G, x2)) else (if (G 114 5) = 43 then j_X5_sum_37 rc x1 rec G x3 else (if (G 114 5) = 45 then j_X5_sum_37 rc x1 rec G x3 else chk (isB x2) (some (G, x2))))))
noncomputable def f_X5_sum (rc : Nat → Mem → Int32 → Option (Mem × Int32)) (G : Mem) (x1 : Int32) : Option (Mem × Int32) := bndP (rc 4 G x1) (fun G1 v2 => iter (q_X5_sum_8 rc x1) fuel (G1, v2, 0))
set_option maxHeartbeats 4000000 in
set_option maxRecDepth 100000 in
theorem c_X5_sum (rc : Nat → Mem → Int32 → Option (Mem × Int32)) (d : Nat) (ihg : ihR rc d) (l : Launch) (D : va_G) (K : List Nat) (sh : Nat → Ent) (ad : Nat → Nat) (cy : Nat → ClassId) (X : va_W) (B : State → Prop) (hcl : Bcl (AS K ad X) B) (S : Nat → Nat) (hE : HC S K sh) (adK adV : Nat → Nat) (hSB : ∀ U : State, B U → SB adK adV (AS K ad X) U) (G : Mem) (L : MemL) (O : MemO) (x1 : Int32) {Gz : Mem} {vz : Int32} (hf : f_X5_sum rc G x1 = some (Gz, vz)) : Met l yX5_sum (wsU yX5_sum cX5_sum 5 (some FieldType.boolean)) (rmX (d + 1 + 8) 0 0) (va_Pc [.ref (ad 114), .int x1] (PS D K sh ad cy X B G L O)) (QI (AS K ad X) (PH D K sh ad cy X Gz L O) vz) 0 0 (AS K ad X) := by
  refine s_met (by decide) (Nat.le_of_ble_eq_true rfl) ?_
  intro p e s m args below meth c ls H locs E hK hBs hnm hI hl
  have hl : lv_has ls 5 [(0, .ref (ad 114)), (1, .int x1)] := hl
  have E : Cx p s m args meth c RX5 cX5_sum 5 (some FieldType.boolean) := E
  obtain ⟨hx, hb, hr, hml, hown, hu, hlocks⟩ := id E
  have B37 : ∀ (k8 : (Mem × Int32 × Int32) → Option (Mem × Int32)) (hk8 : ∀ (G : Mem) (x2 : Int32) (x3 : Int32) (H : Heap) (locs : List Loc) (ls : Array Slot), lv_has ls 5 [(0, .ref (ad 114)), (1, .int x1), (2, .int x2), (3, .int x3)] → IS D K sh ad cy X (AS K ad X) s.heap H locs G L O → k8 (G, x2, x3) = some (Gz, vz) → W p l e (rmX (d + 1 + 8) 0 0) s m args below meth c H locs 0 0 (MQ below (QI (AS K ad X) (PH D K sh ad cy X Gz L O) vz) args s 0 0 (AS K ad X)) (F0 m 8 ls []))  (G : Mem) (x3 : Int32) (H : Heap) (locs : List Loc) (ls : Array Slot), lv_has ls 5 [(0, .ref (ad 114)), (1, .int x1), (3, .int x3)] → IS D K sh ad cy X (AS K ad X) s.heap H locs G L O → j_X5_sum_37 rc x1 k8 G x3 = some (Gz, vz) → W p l e (rmX (d + 1 + 8) 0 0) s m args below meth c H locs 0 0 (MQ below (QI (AS K ad X) (PH D K sh ad cy X Gz L O) vz) args s 0 0 (AS K ad X)) (F0 m 37 ls []) := by
    intro k8 hk8 G x3 H locs ls hl hI hf
    rw [j_X5_sum_37] at hf
    refine lv_aload_n hx hb dX5_sum_37 rfl (lv_at hl 0 rfl) ?_
    refine s_get (v := .int (G 114 5)) hx hb hu inU5 hown hK hI (mE hE.1 eC_114) rfl 5 (by decide) u1_96 (fun _ h => h) rfl rfl dX5_sum_38 ?_
    obtain ⟨x4_9, ex4_9, hf⟩ := bnd_i hf
    refine s_nmI ex4_9 ?_
    refine lv_istore (lv' := [(4, .int x4_9), (0, .ref (ad 114)), (1, .int x1), (3, .int x3)]) hx hb dX5_sum_41 hl (by decide) rfl (fun ls hl => ?_)
    refine lv_aload_n hx hb dX5_sum_43 rfl (lv_at hl 1 rfl) ?_
    obtain ⟨G10, h11, hf⟩ := bndO_i hf
    refine s_afV hI (s_runV (rest := []) (As := []) (np := 0) E hK hI (s_B hcl hBs hI) hcl.2 (mE hE.1 eC_114) rfl (c_X5_advance l D K sh ad cy X B hcl S hE adK adV hSB G L O  h11) kyX5_advance u2_17 u2_19 up_0 (by omega) rfl hl.1 rfl (Nat.le_of_ble_eq_true rfl) ⟨Nat.zero_le _, Nat.zero_le _⟩ dX5_sum_44) (fun H locs hI => ?_)
    refine lv_aload_n hx hb dX5_sum_47 rfl (lv_at hl 1 rfl) ?_
    refine lv_iload_n hx hb dX5_sum_48 rfl (lv_at hl 2 rfl) ?_
    obtain ⟨G12, v13, h14, hf⟩ := bndP_i hf
    refine s_afI hI (s_runV (rest := []) (As := [.int x1]) (np := 1) E hK hI (s_B hcl hBs hI) hcl.2 (mE hE.1 eC_114) rfl ((ihg l D K sh ad cy X B hcl S hE adK adV hSB G10 L O x1 G12 v13).2.2.2.2.1 h14) kyX5_product u2_128 u2_130 up_12 (by omega) rfl hl.1 rfl (Nat.le_of_ble_eq_true rfl) ⟨Nat.zero_le _, Nat.zero_le _⟩ dX5_sum_49) (fun H locs hI => ?_)
    refine lv_istore_n (lv' := [(2, .int v13), (4, .int x4_9), (0, .ref (ad 114)), (1, .int x1), (3, .int x3)]) hx hb dX5_sum_52 rfl hl (by decide) rfl (fun ls hl => ?_)
    refine lv_aload_n hx hb dX5_sum_53 rfl (lv_at hl 2 rfl) ?_
    refine lv_iload hx hb dX5_sum_54 (lv_at hl 1 rfl) ?_
    refine lv_iconst (v := 0) hx hb dX5_sum_56 (by decide) ?_
    obtain ⟨G15, v16, h17, hf⟩ := bndP_i hf
    refine s_afI hI (s_runV (rest := []) (As := [.int x4_9, .int 0]) (np := 2) E hK hI (s_B hcl hBs hI) hcl.2 (mE hE.1 eC_114) rfl (c_X5_emit l D K sh ad cy X B hcl S hE G12 L O x4_9 0 h17) kyX5_emit u2_120 u2_122 up_10 (by omega) rfl hl.1 rfl (Nat.le_of_ble_eq_true rfl) ⟨Nat.zero_le _, Nat.zero_le _⟩ dX5_sum_57) (fun H locs hI => ?_)
    refine lv_pop hx hb dX5_sum_60 rfl ?_
    obtain ⟨x3_18, ex3_18, hf⟩ := bnd_i hf
    refine lv_iinc (v := x3_18) (lv' := [(3, .int x3_18), (2, .int v13), (4, .int x4_9), (0, .ref (ad 114)), (1, .int x1)]) hx hb dX5_sum_61 hl (k := 4) rfl (by rw [ex3_18]; rfl) (by decide) rfl (fun ls hl => ?_)
    refine lv_goto (tgt := 8) hx hb dX5_sum_64 (by decide) ?_
    exact hk8 G15 v13 x3_18 H locs ls (lv_sub hl [3, 4, 1, 0] rfl) hI hf
  have B8 : ∀   (n : Nat) (G : Mem) (x2 : Int32) (x3 : Int32) (H : Heap) (locs : List Loc) (ls : Array Slot), lv_has ls 5 [(0, .ref (ad 114)), (1, .int x1), (2, .int x2), (3, .int x3)] → IS D K sh ad cy X (AS K ad X) s.heap H locs G L O → iter (q_X5_sum_8 rc x1) n (G, x2, x3) = some (Gz, vz) → W p l e (rmX (d + 1 + 8) 0 0) s m args below meth c H locs 0 0 (MQ below (QI (AS K ad X) (PH D K sh ad cy X Gz L O) vz) args s 0 0 (AS K ad X)) (F0 m 8 ls []) := by
    intro n
    induction n with
    | zero => intro G x2 x3 H locs ls hl hI hf; exact iter_0 hf
    | succ n ih =>
      intro G x2 x3 H locs ls hl hI hf
      have hf : q_X5_sum_8 rc x1 (iter (q_X5_sum_8 rc x1) n) (G, x2, x3) = some (Gz, vz) := hf
      rw [q_X5_sum_8] at hf
      refine lv_iload_n hx hb dX5_sum_8 rfl (lv_at hl 3 rfl) ?_
      refine lv_sipush (v := 160) hx hb dX5_sum_9 (by decide) ?_
      refine lv_icmp_ge (tgt := 67) hx hb dX5_sum_12 (by decide) (fun c4 => ?_) (fun c4 => ?_)
      · have hf := ite_t c4 hf
        refine lv_iload_n hx hb dX5_sum_67 rfl (lv_at hl 2 rfl) ?_
        obtain ⟨h5, hf⟩ := chk_i hf
        cases hf
        exact s_zret (isB_i h5) hx hb hr hI.2.2 hI.1 hlocks dX5_sum_68
      · have hf := ite_f c4 hf
        refine lv_iload_n hx hb dX5_sum_15 rfl (lv_at hl 2 rfl) ?_
        refine lv_if_eq (tgt := 67) hx hb dX5_sum_16 (by decide) (fun c6 => ?_) (fun c6 => ?_)
        · have hf := ite_t c6 hf
          refine lv_iload_n hx hb dX5_sum_67 rfl (lv_at hl 2 rfl) ?_
          obtain ⟨h7, hf⟩ := chk_i hf
          cases hf
          exact s_zret (isB_i h7) hx hb hr hI.2.2 hI.1 hlocks dX5_sum_68
        · have hf := ite_f c6 hf
          refine lv_aload_n hx hb dX5_sum_19 rfl (lv_at hl 0 rfl) ?_
          refine s_get (v := .int (G 114 5)) hx hb hu inU5 hown hK hI (mE hE.1 eC_114) rfl 5 (by decide) u1_96 (fun _ h => h) rfl rfl dX5_sum_20 ?_
          refine lv_bipush (v := 43) hx hb dX5_sum_23 (by decide) ?_
          refine lv_icmp_eq (tgt := 37) hx hb dX5_sum_25 (by decide) (fun c8 => ?_) (fun c8 => ?_)
          · have hf := ite_t c8 hf
            exact B37 _ ih  G x3 H locs ls (lv_sub hl [0, 1, 3] rfl) hI hf
          · have hf := ite_f c8 hf
            refine lv_aload_n hx hb dX5_sum_28 rfl (lv_at hl 0 rfl) ?_
            refine s_get (v := .int (G 114 5)) hx hb hu inU5 hown hK hI (mE hE.1 eC_114) rfl 5 (by decide) u1_96 (fun _ h => h) rfl rfl dX5_sum_29 ?_
            refine lv_bipush (v := 45) hx hb dX5_sum_32 (by decide) ?_
            refine lv_icmp_ne (tgt := 67) hx hb dX5_sum_34 (by decide) (fun c19 => ?_) (fun c19 => ?_)
            · have hf := ite_f c19 hf
              refine lv_iload_n hx hb dX5_sum_67 rfl (lv_at hl 2 rfl) ?_
              obtain ⟨h20, hf⟩ := chk_i hf
              cases hf
              exact s_zret (isB_i h20) hx hb hr hI.2.2 hI.1 hlocks dX5_sum_68
            · have hf := ite_t c19 hf
              exact B37 _ ih  G x3 H locs ls (lv_sub hl [0, 1, 3] rfl) hI hf
  rw [f_X5_sum] at hf
  refine lv_aload_n hx hb dX5_sum_0 rfl (lv_at hl 0 rfl) ?_
  refine lv_iload_n hx hb dX5_sum_1 rfl (lv_at hl 1 rfl) ?_
  obtain ⟨G1, v2, h3, hf⟩ := bndP_i hf
  refine s_afI hI (s_runV (rest := []) (As := [.int x1]) (np := 1) E hK hI (s_B hcl hBs hI) hcl.2 (mE hE.1 eC_114) rfl ((ihg l D K sh ad cy X B hcl S hE adK adV hSB G L O x1 G1 v2).2.2.2.2.1 h3) kyX5_product u2_128 u2_130 up_12 (by omega) rfl hl.1 rfl (Nat.le_of_ble_eq_true rfl) ⟨Nat.zero_le _, Nat.zero_le _⟩ dX5_sum_2) (fun H locs hI => ?_)
  refine lv_istore_n (lv' := [(2, .int v2), (0, .ref (ad 114)), (1, .int x1)]) hx hb dX5_sum_5 rfl hl (by decide) rfl (fun ls hl => ?_)
  refine lv_iconst (v := 0) hx hb dX5_sum_6 (by decide) ?_
  refine lv_istore_n (lv' := [(3, .int 0), (2, .int v2), (0, .ref (ad 114)), (1, .int x1)]) hx hb dX5_sum_7 rfl hl (by decide) rfl (fun ls hl => ?_)
  exact B8   fuel G1 v2 0 H locs ls (lv_sub hl [2, 3, 1, 0] rfl) hI hf
noncomputable def q_X5_product_8 (rc : Nat → Mem → Int32 → Option (Mem × Int32)) (x1 : Int32)  (rec : (Mem × Int32 × Int32) → Option (Mem × Int32)) : (Mem × Int32 × Int32) → Option (Mem × Int32) := fun (G, x2, x3) => (if 160 ≤ x3 then chk (isB x2) (some (G, x2)) else (if x2 = 0 then chk (isB x2) (some (G, x2)) else (if (G 114 5) = 42 then bndO (f_X5_advance G) (fun G10 => bndP (rc 5 G10 x1) (fun G12 v13 => bndP (f_X5_emit G12 42 0) (fun G15 v16 => bnd (x3 + 1) (fun x3_18 => rec (G15, v13, x3_18))))) else chk (isB x2) (some (G, x2)))))
noncomputable def f_X5_product (rc : Nat → Mem → Int32 → Option (Mem × Int32)) (G : Mem) (x1 : Int32) : Option (Mem × Int32) := bndP (rc 5 G x1) (fun G1 v2 => iter (q_X5_product_8 rc x1) fuel (G1, v2, 0))
set_option maxHeartbeats 4000000 in
set_option maxRecDepth 100000 in
theorem c_X5_product (rc : Nat → Mem → Int32 → Option (Mem × Int32)) (d : Nat) (ihg : ihR rc d) (l : Launch) (D : va_G) (K : List Nat) (sh : Nat → Ent) (ad : Nat → Nat) (cy : Nat → ClassId) (X : va_W) (B : State → Prop) (hcl : Bcl (AS K ad X) B) (S : Nat → Nat) (hE : HC S K sh) (adK adV : Nat → Nat) (hSB : ∀ U : State, B U → SB adK adV (AS K ad X) U) (G : Mem) (L : MemL) (O : MemO) (x1 : Int32) {Gz : Mem} {vz : Int32} (hf : f_X5_product rc G x1 = some (Gz, vz)) : Met l yX5_product (wsU yX5_product cX5_product 4 (some FieldType.boolean)) (rmX (d + 1 + 8) 0 0) (va_Pc [.ref (ad 114), .int x1] (PS D K sh ad cy X B G L O)) (QI (AS K ad X) (PH D K sh ad cy X Gz L O) vz) 0 0 (AS K ad X) := by
  refine s_met (by decide) (Nat.le_of_ble_eq_true rfl) ?_
  intro p e s m args below meth c ls H locs E hK hBs hnm hI hl
  have hl : lv_has ls 4 [(0, .ref (ad 114)), (1, .int x1)] := hl
  have E : Cx p s m args meth c RX5 cX5_product 4 (some FieldType.boolean) := E
  obtain ⟨hx, hb, hr, hml, hown, hu, hlocks⟩ := id E
  have B8 : ∀   (n : Nat) (G : Mem) (x2 : Int32) (x3 : Int32) (H : Heap) (locs : List Loc) (ls : Array Slot), lv_has ls 4 [(0, .ref (ad 114)), (1, .int x1), (2, .int x2), (3, .int x3)] → IS D K sh ad cy X (AS K ad X) s.heap H locs G L O → iter (q_X5_product_8 rc x1) n (G, x2, x3) = some (Gz, vz) → W p l e (rmX (d + 1 + 8) 0 0) s m args below meth c H locs 0 0 (MQ below (QI (AS K ad X) (PH D K sh ad cy X Gz L O) vz) args s 0 0 (AS K ad X)) (F0 m 8 ls []) := by
    intro n
    induction n with
    | zero => intro G x2 x3 H locs ls hl hI hf; exact iter_0 hf
    | succ n ih =>
      intro G x2 x3 H locs ls hl hI hf
      have hf : q_X5_product_8 rc x1 (iter (q_X5_product_8 rc x1) n) (G, x2, x3) = some (Gz, vz) := hf
      rw [q_X5_product_8] at hf
      refine lv_iload_n hx hb dX5_product_8 rfl (lv_at hl 3 rfl) ?_
      refine lv_sipush (v := 160) hx hb dX5_product_9 (by decide) ?_
      refine lv_icmp_ge (tgt := 52) hx hb dX5_product_12 (by decide) (fun c4 => ?_) (fun c4 => ?_)
      · have hf := ite_t c4 hf
        refine lv_iload_n hx hb dX5_product_52 rfl (lv_at hl 2 rfl) ?_
        obtain ⟨h5, hf⟩ := chk_i hf
        cases hf
        exact s_zret (isB_i h5) hx hb hr hI.2.2 hI.1 hlocks dX5_product_53
      · have hf := ite_f c4 hf
        refine lv_iload_n hx hb dX5_product_15 rfl (lv_at hl 2 rfl) ?_
        refine lv_if_eq (tgt := 52) hx hb dX5_product_16 (by decide) (fun c6 => ?_) (fun c6 => ?_)
        · have hf := ite_t c6 hf
          refine lv_iload_n hx hb dX5_product_52 rfl (lv_at hl 2 rfl) ?_
          obtain ⟨h7, hf⟩ := chk_i hf
          cases hf
          exact s_zret (isB_i h7) hx hb hr hI.2.2 hI.1 hlocks dX5_product_53
        · have hf := ite_f c6 hf
          refine lv_aload_n hx hb dX5_product_19 rfl (lv_at hl 0 rfl) ?_
          refine s_get (v := .int (G 114 5)) hx hb hu inU5 hown hK hI (mE hE.1 eC_114) rfl 5 (by decide) u1_96 (fun _ h => h) rfl rfl dX5_product_20 ?_
          refine lv_bipush (v := 42) hx hb dX5_product_23 (by decide) ?_
          refine lv_icmp_ne (tgt := 52) hx hb dX5_product_25 (by decide) (fun c8 => ?_) (fun c8 => ?_)
          · have hf := ite_f c8 hf
            refine lv_iload_n hx hb dX5_product_52 rfl (lv_at hl 2 rfl) ?_
            obtain ⟨h9, hf⟩ := chk_i hf
            cases hf
            exact s_zret (isB_i h9) hx hb hr hI.2.2 hI.1 hlocks dX5_product_53
          · have hf := ite_t c8 hf
            refine lv_aload_n hx hb dX5_product_28 rfl (lv_at hl 0 rfl) ?_
            obtain ⟨G10, h11, hf⟩ := bndO_i hf
            refine s_afV hI (s_runV (rest := []) (As := []) (np := 0) E hK hI (s_B hcl hBs hI) hcl.2 (mE hE.1 eC_114) rfl (c_X5_advance l D K sh ad cy X B hcl S hE adK adV hSB G L O  h11) kyX5_advance u2_17 u2_19 up_0 (by omega) rfl hl.1 rfl (Nat.le_of_ble_eq_true rfl) ⟨Nat.zero_le _, Nat.zero_le _⟩ dX5_product_29) (fun H locs hI => ?_)
            refine lv_aload_n hx hb dX5_product_32 rfl (lv_at hl 0 rfl) ?_
            refine lv_iload_n hx hb dX5_product_33 rfl (lv_at hl 1 rfl) ?_
            obtain ⟨G12, v13, h14, hf⟩ := bndP_i hf
            refine s_afI hI (s_runV (rest := []) (As := [.int x1]) (np := 1) E hK hI (s_B hcl hBs hI) hcl.2 (mE hE.1 eC_114) rfl ((ihg l D K sh ad cy X B hcl S hE adK adV hSB G10 L O x1 G12 v13).2.2.2.2.2 h14) kyX5_one u2_132 u2_134 up_13 (by omega) rfl hl.1 rfl (Nat.le_of_ble_eq_true rfl) ⟨Nat.zero_le _, Nat.zero_le _⟩ dX5_product_34) (fun H locs hI => ?_)
            refine lv_istore_n (lv' := [(2, .int v13), (0, .ref (ad 114)), (1, .int x1), (3, .int x3)]) hx hb dX5_product_37 rfl hl (by decide) rfl (fun ls hl => ?_)
            refine lv_aload_n hx hb dX5_product_38 rfl (lv_at hl 1 rfl) ?_
            refine lv_bipush (v := 42) hx hb dX5_product_39 (by decide) ?_
            refine lv_iconst (v := 0) hx hb dX5_product_41 (by decide) ?_
            obtain ⟨G15, v16, h17, hf⟩ := bndP_i hf
            refine s_afI hI (s_runV (rest := []) (As := [.int 42, .int 0]) (np := 2) E hK hI (s_B hcl hBs hI) hcl.2 (mE hE.1 eC_114) rfl (c_X5_emit l D K sh ad cy X B hcl S hE G12 L O 42 0 h17) kyX5_emit u2_120 u2_122 up_10 (by omega) rfl hl.1 rfl (Nat.le_of_ble_eq_true rfl) ⟨Nat.zero_le _, Nat.zero_le _⟩ dX5_product_42) (fun H locs hI => ?_)
            refine lv_pop hx hb dX5_product_45 rfl ?_
            obtain ⟨x3_18, ex3_18, hf⟩ := bnd_i hf
            refine lv_iinc (v := x3_18) (lv' := [(3, .int x3_18), (2, .int v13), (0, .ref (ad 114)), (1, .int x1)]) hx hb dX5_product_46 hl (k := 3) rfl (by rw [ex3_18]; rfl) (by decide) rfl (fun ls hl => ?_)
            refine lv_goto (tgt := 8) hx hb dX5_product_49 (by decide) ?_
            exact ih G15 v13 x3_18 H locs ls (lv_sub hl [2, 3, 1, 0] rfl) hI hf
  rw [f_X5_product] at hf
  refine lv_aload_n hx hb dX5_product_0 rfl (lv_at hl 0 rfl) ?_
  refine lv_iload_n hx hb dX5_product_1 rfl (lv_at hl 1 rfl) ?_
  obtain ⟨G1, v2, h3, hf⟩ := bndP_i hf
  refine s_afI hI (s_runV (rest := []) (As := [.int x1]) (np := 1) E hK hI (s_B hcl hBs hI) hcl.2 (mE hE.1 eC_114) rfl ((ihg l D K sh ad cy X B hcl S hE adK adV hSB G L O x1 G1 v2).2.2.2.2.2 h3) kyX5_one u2_132 u2_134 up_13 (by omega) rfl hl.1 rfl (Nat.le_of_ble_eq_true rfl) ⟨Nat.zero_le _, Nat.zero_le _⟩ dX5_product_2) (fun H locs hI => ?_)
  refine lv_istore_n (lv' := [(2, .int v2), (0, .ref (ad 114)), (1, .int x1)]) hx hb dX5_product_5 rfl hl (by decide) rfl (fun ls hl => ?_)
  refine lv_iconst (v := 0) hx hb dX5_product_6 (by decide) ?_
  refine lv_istore_n (lv' := [(3, .int 0), (2, .int v2), (0, .ref (ad 114)), (1, .int x1)]) hx hb dX5_product_7 rfl hl (by decide) rfl (fun ls hl => ?_)
  exact B8   fuel G1 v2 0 H locs ls (lv_sub hl [2, 3, 1, 0] rfl) hI hf
noncomputable def j_X5_one_18 (rc : Nat → Mem → Int32 → Option (Mem × Int32)) (x1 : Int32)  (G : Mem) : Option (Mem × Int32) := bndP (f_X5_emit G (G 114 5) (G 114 6)) (fun G2 v3 => bndO (f_X5_advance G2) (fun G5 => some (G5, 1)))
noncomputable def f_X5_one (rc : Nat → Mem → Int32 → Option (Mem × Int32)) (G : Mem) (x1 : Int32) : Option (Mem × Int32) := (if (G 114 5) = 7 then j_X5_one_18 rc x1 G else (if (G 114 5) = 6 then j_X5_one_18 rc x1 G else (if (G 114 5) = 45 then bndP (f_X5_enter G x1) (fun G22 v23 => (if v23 = 0 then some (G22, 0) else bndP (rc 5 G22 (x1 + 1)) (fun G26 v27 => (if v27 = 0 then some (G26, 0) else bndP (f_X5_emit G26 8 0) (fun G30 v31 => (if v31 = 0 then some (G30, 0) else some (G30, 1))))))) else (if (G 114 5) = 40 then bndP (f_X5_enter G x1) (fun G10 v11 => (if v11 = 0 then some (G10, 0) else bndP (rc 0 G10 (x1 + 1)) (fun G14 v15 => (if v15 = 0 then some (G14, 0) else bndP (f_X5_pass G14 41) (fun G18 v19 => (if v19 = 0 then some (G18, 0) else some (G18, 1))))))) else some (G, 0)))))
set_option maxHeartbeats 4000000 in
set_option maxRecDepth 100000 in
theorem c_X5_one (rc : Nat → Mem → Int32 → Option (Mem × Int32)) (d : Nat) (ihg : ihR rc d) (l : Launch) (D : va_G) (K : List Nat) (sh : Nat → Ent) (ad : Nat → Nat) (cy : Nat → ClassId) (X : va_W) (B : State → Prop) (hcl : Bcl (AS K ad X) B) (S : Nat → Nat) (hE : HC S K sh) (adK adV : Nat → Nat) (hSB : ∀ U : State, B U → SB adK adV (AS K ad X) U) (G : Mem) (L : MemL) (O : MemO) (x1 : Int32) {Gz : Mem} {vz : Int32} (hf : f_X5_one rc G x1 = some (Gz, vz)) : Met l yX5_one (wsU yX5_one cX5_one 2 (some FieldType.boolean)) (rmX (d + 1 + 8) 0 0) (va_Pc [.ref (ad 114), .int x1] (PS D K sh ad cy X B G L O)) (QI (AS K ad X) (PH D K sh ad cy X Gz L O) vz) 0 0 (AS K ad X) := by
  refine s_met (by decide) (Nat.le_of_ble_eq_true rfl) ?_
  intro p e s m args below meth c ls H locs E hK hBs hnm hI hl
  have hl : lv_has ls 2 [(0, .ref (ad 114)), (1, .int x1)] := hl
  have E : Cx p s m args meth c RX5 cX5_one 2 (some FieldType.boolean) := E
  obtain ⟨hx, hb, hr, hml, hown, hu, hlocks⟩ := id E
  have B18 : ∀    (G : Mem) (H : Heap) (locs : List Loc) (ls : Array Slot), lv_has ls 2 [(0, .ref (ad 114))] → IS D K sh ad cy X (AS K ad X) s.heap H locs G L O → j_X5_one_18 rc x1 G = some (Gz, vz) → W p l e (rmX (d + 1 + 8) 0 0) s m args below meth c H locs 0 0 (MQ below (QI (AS K ad X) (PH D K sh ad cy X Gz L O) vz) args s 0 0 (AS K ad X)) (F0 m 18 ls []) := by
    intro  G H locs ls hl hI hf
    rw [j_X5_one_18] at hf
    refine lv_aload_n hx hb dX5_one_18 rfl (lv_at hl 0 rfl) ?_
    refine lv_aload_n hx hb dX5_one_19 rfl (lv_at hl 0 rfl) ?_
    refine s_get (v := .int (G 114 5)) hx hb hu inU5 hown hK hI (mE hE.1 eC_114) rfl 5 (by decide) u1_96 (fun _ h => h) rfl rfl dX5_one_20 ?_
    refine lv_aload_n hx hb dX5_one_23 rfl (lv_at hl 0 rfl) ?_
    refine s_get (v := .int (G 114 6)) hx hb hu inU5 hown hK hI (mE hE.1 eC_114) rfl 6 (by decide) u1_97 (fun _ h => h) rfl rfl dX5_one_24 ?_
    obtain ⟨G2, v3, h4, hf⟩ := bndP_i hf
    refine s_afI hI (s_runV (rest := []) (As := [.int (G 114 5), .int (G 114 6)]) (np := 2) E hK hI (s_B hcl hBs hI) hcl.2 (mE hE.1 eC_114) rfl (c_X5_emit l D K sh ad cy X B hcl S hE G L O (G 114 5) (G 114 6) h4) kyX5_emit u2_120 u2_122 up_10 (by omega) rfl hl.1 rfl (Nat.le_of_ble_eq_true rfl) ⟨Nat.zero_le _, Nat.zero_le _⟩ dX5_one_27) (fun H locs hI => ?_)
    refine lv_pop hx hb dX5_one_30 rfl ?_
    refine lv_aload_n hx hb dX5_one_31 rfl (lv_at hl 0 rfl) ?_
    obtain ⟨G5, h6, hf⟩ := bndO_i hf
    refine s_afV hI (s_runV (rest := []) (As := []) (np := 0) E hK hI (s_B hcl hBs hI) hcl.2 (mE hE.1 eC_114) rfl (c_X5_advance l D K sh ad cy X B hcl S hE adK adV hSB G2 L O  h6) kyX5_advance u2_17 u2_19 up_0 (by omega) rfl hl.1 rfl (Nat.le_of_ble_eq_true rfl) ⟨Nat.zero_le _, Nat.zero_le _⟩ dX5_one_32) (fun H locs hI => ?_)
    refine lv_iconst (v := 1) hx hb dX5_one_35 (by decide) ?_
    cases hf
    exact s_zret rfl hx hb hr hI.2.2 hI.1 hlocks dX5_one_36
  rw [f_X5_one] at hf
  refine lv_aload_n hx hb dX5_one_0 rfl (lv_at hl 0 rfl) ?_
  refine s_get (v := .int (G 114 5)) hx hb hu inU5 hown hK hI (mE hE.1 eC_114) rfl 5 (by decide) u1_96 (fun _ h => h) rfl rfl dX5_one_1 ?_
  refine lv_bipush (v := 7) hx hb dX5_one_4 (by decide) ?_
  refine lv_icmp_eq (tgt := 18) hx hb dX5_one_6 (by decide) (fun c1 => ?_) (fun c1 => ?_)
  · have hf := ite_t c1 hf
    exact B18    G H locs ls (lv_sub hl [0] rfl) hI hf
  · have hf := ite_f c1 hf
    refine lv_aload_n hx hb dX5_one_9 rfl (lv_at hl 0 rfl) ?_
    refine s_get (v := .int (G 114 5)) hx hb hu inU5 hown hK hI (mE hE.1 eC_114) rfl 5 (by decide) u1_96 (fun _ h => h) rfl rfl dX5_one_10 ?_
    refine lv_bipush (v := 6) hx hb dX5_one_13 (by decide) ?_
    refine lv_icmp_ne (tgt := 37) hx hb dX5_one_15 (by decide) (fun c7 => ?_) (fun c7 => ?_)
    · have hf := ite_f c7 hf
      refine lv_aload_n hx hb dX5_one_37 rfl (lv_at hl 0 rfl) ?_
      refine s_get (v := .int (G 114 5)) hx hb hu inU5 hown hK hI (mE hE.1 eC_114) rfl 5 (by decide) u1_96 (fun _ h => h) rfl rfl dX5_one_38 ?_
      refine lv_bipush (v := 45) hx hb dX5_one_41 (by decide) ?_
      refine lv_icmp_ne (tgt := 80) hx hb dX5_one_43 (by decide) (fun c8 => ?_) (fun c8 => ?_)
      · have hf := ite_f c8 hf
        refine lv_aload_n hx hb dX5_one_80 rfl (lv_at hl 0 rfl) ?_
        refine s_get (v := .int (G 114 5)) hx hb hu inU5 hown hK hI (mE hE.1 eC_114) rfl 5 (by decide) u1_96 (fun _ h => h) rfl rfl dX5_one_81 ?_
        refine lv_bipush (v := 40) hx hb dX5_one_84 (by decide) ?_
        refine lv_icmp_ne (tgt := 120) hx hb dX5_one_86 (by decide) (fun c9 => ?_) (fun c9 => ?_)
        · have hf := ite_f c9 hf
          refine lv_iconst (v := 0) hx hb dX5_one_120 (by decide) ?_
          cases hf
          exact s_zret rfl hx hb hr hI.2.2 hI.1 hlocks dX5_one_121
        · have hf := ite_t c9 hf
          refine lv_aload_n hx hb dX5_one_89 rfl (lv_at hl 0 rfl) ?_
          refine lv_iload_n hx hb dX5_one_90 rfl (lv_at hl 1 rfl) ?_
          obtain ⟨G10, v11, h12, hf⟩ := bndP_i hf
          refine s_afI hI (s_runV (rest := []) (As := [.int x1]) (np := 1) E hK hI (s_B hcl hBs hI) hcl.2 (mE hE.1 eC_114) rfl (c_X5_enter l D K sh ad cy X B hcl S hE adK adV hSB G L O x1 h12) kyX5_enter u2_116 u2_118 up_9 (by omega) rfl hl.1 rfl (Nat.le_of_ble_eq_true rfl) ⟨Nat.zero_le _, Nat.zero_le _⟩ dX5_one_91) (fun H locs hI => ?_)
          refine lv_if_eq (tgt := 120) hx hb dX5_one_94 (by decide) (fun c13 => ?_) (fun c13 => ?_)
          · have hf := ite_t c13 hf
            refine lv_iconst (v := 0) hx hb dX5_one_120 (by decide) ?_
            cases hf
            exact s_zret rfl hx hb hr hI.2.2 hI.1 hlocks dX5_one_121
          · have hf := ite_f c13 hf
            refine lv_aload_n hx hb dX5_one_97 rfl (lv_at hl 0 rfl) ?_
            refine lv_iload_n hx hb dX5_one_98 rfl (lv_at hl 1 rfl) ?_
            refine lv_iconst (v := 1) hx hb dX5_one_99 (by decide) ?_
            refine lv_iadd hx hb dX5_one_100 ?_
            obtain ⟨G14, v15, h16, hf⟩ := bndP_i hf
            refine s_afI hI (s_runV (rest := []) (As := [.int (x1 + 1)]) (np := 1) E hK hI (s_B hcl hBs hI) hcl.2 (mE hE.1 eC_114) rfl ((ihg l D K sh ad cy X B hcl S hE adK adV hSB G10 L O (x1 + 1) G14 v15).1 h16) kyX5_either u2_104 u2_106 up_6 (by omega) rfl hl.1 rfl (Nat.le_of_ble_eq_true rfl) ⟨Nat.zero_le _, Nat.zero_le _⟩ dX5_one_101) (fun H locs hI => ?_)
            refine lv_if_eq (tgt := 120) hx hb dX5_one_104 (by decide) (fun c17 => ?_) (fun c17 => ?_)
            · have hf := ite_t c17 hf
              refine lv_iconst (v := 0) hx hb dX5_one_120 (by decide) ?_
              cases hf
              exact s_zret rfl hx hb hr hI.2.2 hI.1 hlocks dX5_one_121
            · have hf := ite_f c17 hf
              refine lv_aload_n hx hb dX5_one_107 rfl (lv_at hl 0 rfl) ?_
              refine lv_bipush (v := 41) hx hb dX5_one_108 (by decide) ?_
              obtain ⟨G18, v19, h20, hf⟩ := bndP_i hf
              refine s_afI hI (s_runV (rest := []) (As := [.int 41]) (np := 1) E hK hI (s_B hcl hBs hI) hcl.2 (mE hE.1 eC_114) rfl (c_X5_pass l D K sh ad cy X B hcl S hE adK adV hSB G14 L O 41 h20) kyX5_pass u2_100 u2_102 up_5 (by omega) rfl hl.1 rfl (Nat.le_of_ble_eq_true rfl) ⟨Nat.zero_le _, Nat.zero_le _⟩ dX5_one_110) (fun H locs hI => ?_)
              refine lv_if_eq (tgt := 120) hx hb dX5_one_113 (by decide) (fun c21 => ?_) (fun c21 => ?_)
              · have hf := ite_t c21 hf
                refine lv_iconst (v := 0) hx hb dX5_one_120 (by decide) ?_
                cases hf
                exact s_zret rfl hx hb hr hI.2.2 hI.1 hlocks dX5_one_121
              · have hf := ite_f c21 hf
                refine lv_iconst (v := 1) hx hb dX5_one_116 (by decide) ?_
                refine lv_goto (tgt := 121) hx hb dX5_one_117 (by decide) ?_
                cases hf
                exact s_zret rfl hx hb hr hI.2.2 hI.1 hlocks dX5_one_121
      · have hf := ite_t c8 hf
        refine lv_aload_n hx hb dX5_one_46 rfl (lv_at hl 0 rfl) ?_
        refine lv_iload_n hx hb dX5_one_47 rfl (lv_at hl 1 rfl) ?_
        obtain ⟨G22, v23, h24, hf⟩ := bndP_i hf
        refine s_afI hI (s_runV (rest := []) (As := [.int x1]) (np := 1) E hK hI (s_B hcl hBs hI) hcl.2 (mE hE.1 eC_114) rfl (c_X5_enter l D K sh ad cy X B hcl S hE adK adV hSB G L O x1 h24) kyX5_enter u2_116 u2_118 up_9 (by omega) rfl hl.1 rfl (Nat.le_of_ble_eq_true rfl) ⟨Nat.zero_le _, Nat.zero_le _⟩ dX5_one_48) (fun H locs hI => ?_)
        refine lv_if_eq (tgt := 78) hx hb dX5_one_51 (by decide) (fun c25 => ?_) (fun c25 => ?_)
        · have hf := ite_t c25 hf
          refine lv_iconst (v := 0) hx hb dX5_one_78 (by decide) ?_
          cases hf
          exact s_zret rfl hx hb hr hI.2.2 hI.1 hlocks dX5_one_79
        · have hf := ite_f c25 hf
          refine lv_aload_n hx hb dX5_one_54 rfl (lv_at hl 0 rfl) ?_
          refine lv_iload_n hx hb dX5_one_55 rfl (lv_at hl 1 rfl) ?_
          refine lv_iconst (v := 1) hx hb dX5_one_56 (by decide) ?_
          refine lv_iadd hx hb dX5_one_57 ?_
          obtain ⟨G26, v27, h28, hf⟩ := bndP_i hf
          refine s_afI hI (s_runV (rest := []) (As := [.int (x1 + 1)]) (np := 1) E hK hI (s_B hcl hBs hI) hcl.2 (mE hE.1 eC_114) rfl ((ihg l D K sh ad cy X B hcl S hE adK adV hSB G22 L O (x1 + 1) G26 v27).2.2.2.2.2 h28) kyX5_one u2_132 u2_134 up_13 (by omega) rfl hl.1 rfl (Nat.le_of_ble_eq_true rfl) ⟨Nat.zero_le _, Nat.zero_le _⟩ dX5_one_58) (fun H locs hI => ?_)
          refine lv_if_eq (tgt := 78) hx hb dX5_one_61 (by decide) (fun c29 => ?_) (fun c29 => ?_)
          · have hf := ite_t c29 hf
            refine lv_iconst (v := 0) hx hb dX5_one_78 (by decide) ?_
            cases hf
            exact s_zret rfl hx hb hr hI.2.2 hI.1 hlocks dX5_one_79
          · have hf := ite_f c29 hf
            refine lv_aload_n hx hb dX5_one_64 rfl (lv_at hl 0 rfl) ?_
            refine lv_bipush (v := 8) hx hb dX5_one_65 (by decide) ?_
            refine lv_iconst (v := 0) hx hb dX5_one_67 (by decide) ?_
            obtain ⟨G30, v31, h32, hf⟩ := bndP_i hf
            refine s_afI hI (s_runV (rest := []) (As := [.int 8, .int 0]) (np := 2) E hK hI (s_B hcl hBs hI) hcl.2 (mE hE.1 eC_114) rfl (c_X5_emit l D K sh ad cy X B hcl S hE G26 L O 8 0 h32) kyX5_emit u2_120 u2_122 up_10 (by omega) rfl hl.1 rfl (Nat.le_of_ble_eq_true rfl) ⟨Nat.zero_le _, Nat.zero_le _⟩ dX5_one_68) (fun H locs hI => ?_)
            refine lv_if_eq (tgt := 78) hx hb dX5_one_71 (by decide) (fun c33 => ?_) (fun c33 => ?_)
            · have hf := ite_t c33 hf
              refine lv_iconst (v := 0) hx hb dX5_one_78 (by decide) ?_
              cases hf
              exact s_zret rfl hx hb hr hI.2.2 hI.1 hlocks dX5_one_79
            · have hf := ite_f c33 hf
              refine lv_iconst (v := 1) hx hb dX5_one_74 (by decide) ?_
              refine lv_goto (tgt := 79) hx hb dX5_one_75 (by decide) ?_
              cases hf
              exact s_zret rfl hx hb hr hI.2.2 hI.1 hlocks dX5_one_79
    · have hf := ite_t c7 hf
      exact B18    G H locs ls (lv_sub hl [0] rfl) hI hf
noncomputable def gR : Nat → Nat → Mem → Int32 → Option (Mem × Int32)
  | 0 => fun _ _ _ => none
  | d + 1 => fun j => match j with
    | 0 => f_X5_either (gR d)
    | 1 => f_X5_both (gR d)
    | 2 => f_X5_negated (gR d)
    | 3 => f_X5_sum (gR d)
    | 4 => f_X5_product (gR d)
    | 5 => f_X5_one (gR d)
    | _ => fun _ _ => none
theorem ihR_all : ∀ d, ihR (gR d) d
  | 0 => fun l D K sh ad cy X B hcl S hE adK adV hSB G L O x1 Gz vz => ⟨(fun h => by cases h), (fun h => by cases h), (fun h => by cases h), (fun h => by cases h), (fun h => by cases h), (fun h => by cases h)⟩
  | d + 1 => fun l D K sh ad cy X B hcl S hE adK adV hSB G L O x1 Gz vz => ⟨(fun h => c_X5_either (gR d) d (ihR_all d) l D K sh ad cy X B hcl S hE adK adV hSB G L O x1 h), (fun h => c_X5_both (gR d) d (ihR_all d) l D K sh ad cy X B hcl S hE adK adV hSB G L O x1 h), (fun h => c_X5_negated (gR d) d (ihR_all d) l D K sh ad cy X B hcl S hE adK adV hSB G L O x1 h), (fun h => c_X5_sum (gR d) d (ihR_all d) l D K sh ad cy X B hcl S hE adK adV hSB G L O x1 h), (fun h => c_X5_product (gR d) d (ihR_all d) l D K sh ad cy X B hcl S hE adK adV hSB G L O x1 h), (fun h => c_X5_one (gR d) d (ihR_all d) l D K sh ad cy X B hcl S hE adK adV hSB G L O x1 h)⟩
noncomputable def q_X11_feed_35 (x1 : Int32) (w2 : Int64)  (rec : (Mem × Int32) → Option (Mem × Int32)) : (Mem × Int32) → Option (Mem × Int32) := fun (G, x4) => (if x1 ≤ x4 then some (G, (G 114 2)) else bndO (f_X5_put G (((w2 >>> ((8 * x4).toInt64 &&& 63)).toInt32) &&& 255)) (fun G5 => bnd (x4 + 1) (fun x4_7 => rec (G5, x4_7))))
noncomputable def f_X11_feed (G : Mem) (x1 : Int32) (w2 : Int64) : Option (Mem × Int32) := (if x1 < 1 then some (G, (-2)) else (if x1 ≤ 8 then (if ((G 114 2) + x1) ≤ 160 then iter (q_X11_feed_35 x1 w2) fuel (G, 0) else some (G, (-4))) else some (G, (-2))))
theorem kyX11_feed : Ky yX11_feed cX11_feed 5 (some FieldType.int) 2 := ⟨u3_166, u1_1, by decide, by decide, by decide, by decide +kernel⟩
set_option maxHeartbeats 4000000 in
set_option maxRecDepth 100000 in
theorem c_X11_feed (l : Launch) (D : va_G) (K : List Nat) (sh : Nat → Ent) (ad : Nat → Nat) (cy : Nat → ClassId) (X : va_W) (B : State → Prop) (hcl : Bcl (AS K ad X) B) (S : Nat → Nat) (hE : HC S K sh) (G : Mem) (L : MemL) (O : MemO) (x1 : Int32) (w2 : Int64) {Gz : Mem} {vz : Int32} (hf : f_X11_feed G x1 w2 = some (Gz, vz)) : Met l yX11_feed (wsU yX11_feed cX11_feed 5 (some FieldType.int)) (rmX 2 0 0) (va_Pc [.ref (ad 100), .int x1, .long w2] (PS D K sh ad cy X B G L O)) (QI (AS K ad X) (PH D K sh ad cy X Gz L O) vz) 0 0 (AS K ad X) := by
  refine s_met (by decide) (Nat.le_of_ble_eq_true rfl) ?_
  intro p e s m args below meth c ls H locs E hK hBs hnm hI hl
  have hl : lv_has ls 5 [(0, .ref (ad 100)), (1, .int x1), (2, .long w2)] := hl
  have E : Cx p s m args meth c RX11 cX11_feed 5 (some FieldType.int) := E
  obtain ⟨hx, hb, hr, hml, hown, hu, hlocks⟩ := id E
  have B35 : ∀   (n : Nat) (G : Mem) (x4 : Int32) (H : Heap) (locs : List Loc) (ls : Array Slot), lv_has ls 5 [(0, .ref (ad 100)), (1, .int x1), (2, .long w2), (4, .int x4)] → IS D K sh ad cy X (AS K ad X) s.heap H locs G L O → iter (q_X11_feed_35 x1 w2) n (G, x4) = some (Gz, vz) → W p l e (rmX 2 0 0) s m args below meth c H locs 0 0 (MQ below (QI (AS K ad X) (PH D K sh ad cy X Gz L O) vz) args s 0 0 (AS K ad X)) (F0 m 35 ls []) := by
    intro n
    induction n with
    | zero => intro G x4 H locs ls hl hI hf; exact iter_0 hf
    | succ n ih =>
      intro G x4 H locs ls hl hI hf
      have hf : q_X11_feed_35 x1 w2 (iter (q_X11_feed_35 x1 w2) n) (G, x4) = some (Gz, vz) := hf
      rw [q_X11_feed_35] at hf
      refine lv_iload hx hb dX11_feed_35 (lv_at hl 3 rfl) ?_
      refine lv_iload_n hx hb dX11_feed_37 rfl (lv_at hl 1 rfl) ?_
      refine lv_icmp_ge (tgt := 66) hx hb dX11_feed_38 (by decide) (fun c4 => ?_) (fun c4 => ?_)
      · have hf := ite_t c4 hf
        refine lv_aload_n hx hb dX11_feed_66 rfl (lv_at hl 0 rfl) ?_
        refine s_get (v := .ref (ad 114)) hx hb hu inU11 hown hK hI (mE hE.1 eC_100) rfl 5 (by decide) u2_180 (fun _ h => h) rfl rfl dX11_feed_67 ?_
        refine s_getN (host := RX11) (v := .int (G 114 2)) hx hb hu inU5 hown hK hI (mE hE.1 eC_114) rfl 2 (by decide) (by decide) (fun _ h => h) rfl rfl dX11_feed_70 ?_
        cases hf
        exact s_iret hx hb hr hI.2.2 hI.1 hlocks dX11_feed_73
      · have hf := ite_f c4 hf
        refine lv_aload_n hx hb dX11_feed_41 rfl (lv_at hl 0 rfl) ?_
        refine s_get (v := .ref (ad 114)) hx hb hu inU11 hown hK hI (mE hE.1 eC_100) rfl 5 (by decide) u2_180 (fun _ h => h) rfl rfl dX11_feed_42 ?_
        refine lv_lload_n hx hb dX11_feed_45 rfl (lv_at hl 2 rfl) ?_
        refine lv_bipush (v := 8) hx hb dX11_feed_46 (by decide) ?_
        refine lv_iload hx hb dX11_feed_48 (lv_at hl 3 rfl) ?_
        refine lv_imul hx hb dX11_feed_50 ?_
        refine lv_lshr (v := (w2 >>> ((8 * x4).toInt64 &&& 63))) hx hb dX11_feed_51 rfl ?_
        refine lv_l2i (v := ((w2 >>> ((8 * x4).toInt64 &&& 63)).toInt32)) hx hb dX11_feed_52 rfl ?_
        refine lv_sipush (v := 255) hx hb dX11_feed_53 (by decide) ?_
        refine lv_iand hx hb dX11_feed_56 ?_
        obtain ⟨G5, h6, hf⟩ := bndO_i hf
        refine s_afV hI (s_runV (rest := []) (As := [.int (((w2 >>> ((8 * x4).toInt64 &&& 63)).toInt32) &&& 255)]) (np := 1) E hK hI (s_B hcl hBs hI) hcl.2 (mE hE.1 eC_114) rfl (c_X5_put l D K sh ad cy X B hcl S hE G L O (((w2 >>> ((8 * x4).toInt64 &&& 63)).toInt32) &&& 255) h6) kyX5_put u2_9 u2_10 u2_11 (by decide) rfl hl.1 rfl (Nat.le_of_ble_eq_true rfl) ⟨Nat.zero_le _, Nat.zero_le _⟩ dX11_feed_57) (fun H locs hI => ?_)
        obtain ⟨x4_7, ex4_7, hf⟩ := bnd_i hf
        refine lv_iinc (v := x4_7) (lv' := [(4, .int x4_7), (0, .ref (ad 100)), (1, .int x1), (2, .long w2)]) hx hb dX11_feed_60 hl (k := 3) rfl (by rw [ex4_7]; rfl) (by decide) rfl (fun ls hl => ?_)
        refine lv_goto (tgt := 35) hx hb dX11_feed_63 (by decide) ?_
        exact ih G5 x4_7 H locs ls (lv_sub hl [1, 2, 3, 0] rfl) hI hf
  rw [f_X11_feed] at hf
  refine lv_iload_n hx hb dX11_feed_0 rfl (lv_at hl 1 rfl) ?_
  refine lv_iconst (v := 1) hx hb dX11_feed_1 (by decide) ?_
  refine lv_icmp_lt (tgt := 11) hx hb dX11_feed_2 (by decide) (fun c1 => ?_) (fun c1 => ?_)
  · have hf := ite_t c1 hf
    refine lv_bipush (v := (-2)) hx hb dX11_feed_11 (by decide) ?_
    cases hf
    exact s_iret hx hb hr hI.2.2 hI.1 hlocks dX11_feed_13
  · have hf := ite_f c1 hf
    refine lv_iload_n hx hb dX11_feed_5 rfl (lv_at hl 1 rfl) ?_
    refine lv_bipush (v := 8) hx hb dX11_feed_6 (by decide) ?_
    refine lv_icmp_le (tgt := 14) hx hb dX11_feed_8 (by decide) (fun c2 => ?_) (fun c2 => ?_)
    · have hf := ite_t c2 hf
      refine lv_aload_n hx hb dX11_feed_14 rfl (lv_at hl 0 rfl) ?_
      refine s_get (v := .ref (ad 114)) hx hb hu inU11 hown hK hI (mE hE.1 eC_100) rfl 5 (by decide) u2_180 (fun _ h => h) rfl rfl dX11_feed_15 ?_
      refine s_getN (host := RX11) (v := .int (G 114 2)) hx hb hu inU5 hown hK hI (mE hE.1 eC_114) rfl 2 (by decide) (by decide) (fun _ h => h) rfl rfl dX11_feed_18 ?_
      refine lv_iload_n hx hb dX11_feed_21 rfl (lv_at hl 1 rfl) ?_
      refine lv_iadd hx hb dX11_feed_22 ?_
      refine lv_sipush (v := 160) hx hb dX11_feed_23 (by decide) ?_
      refine lv_icmp_le (tgt := 32) hx hb dX11_feed_26 (by decide) (fun c3 => ?_) (fun c3 => ?_)
      · have hf := ite_t c3 hf
        refine lv_iconst (v := 0) hx hb dX11_feed_32 (by decide) ?_
        refine lv_istore (lv' := [(4, .int 0), (0, .ref (ad 100)), (1, .int x1), (2, .long w2)]) hx hb dX11_feed_33 hl (by decide) rfl (fun ls hl => ?_)
        exact B35   fuel G 0 H locs ls (lv_sub hl [1, 2, 3, 0] rfl) hI hf
      · have hf := ite_f c3 hf
        refine lv_bipush (v := (-4)) hx hb dX11_feed_29 (by decide) ?_
        cases hf
        exact s_iret hx hb hr hI.2.2 hI.1 hlocks dX11_feed_31
    · have hf := ite_f c2 hf
      refine lv_bipush (v := (-2)) hx hb dX11_feed_11 (by decide) ?_
      cases hf
      exact s_iret hx hb hr hI.2.2 hI.1 hlocks dX11_feed_13
