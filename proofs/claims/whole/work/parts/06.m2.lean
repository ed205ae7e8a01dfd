noncomputable def f_X12_rule (G : Mem) (x1 : Int32) : Option (Mem) := (if (f_X12_isKey G (10 + x1)) = 0 then bndO (f_X12_faulty G) (fun G13 => some G13) else bndO (f_X12_next G) (fun G2 => bndO (gM 60 0 G2) (fun G4 => (if (f_X12_isSign G4 59) = 0 then bndO (f_X12_faulty G4) (fun G11 => some G11) else bndO (f_X12_next G4) (fun G7 => chk (inB (18 + x1) 21) (bnd (up2 G7 13 (18 + x1).toNatClampNeg (G7 0 20)) (fun G10 => some G10)))))))
theorem kyX12_rule : Ky yX12_rule cX12_rule 2 none 1 := ⟨u5_184, u1_15, by decide, by decide, by decide, by decide +kernel⟩
set_option maxHeartbeats 4000000 in
set_option maxRecDepth 100000 in
theorem c_X12_rule (l : Launch) (D : va_G) (K : List Nat) (sh : Nat → Ent) (ad : Nat → Nat) (cy : Nat → ClassId) (X : va_W) (B : State → Prop) (hcl : Bcl (AS K ad X) B) (hE : ∀ q ∈ shM, q.1 ∈ K ∧ sh q.1 = q.2) (G : Mem) (L : MemL) (O : MemO) (x1 : Int32) {Gz : Mem} (hf : f_X12_rule G x1 = some Gz) : Met l yX12_rule (wsU yX12_rule cX12_rule 2 none) (rmX 65 0 0) (va_Pc [.ref (ad 0), .int x1] (PS D K sh ad cy X B G L O)) (QV (AS K ad X) (PH D K sh ad cy X Gz L O)) 0 0 (AS K ad X) := by
  refine s_met (by decide) (Nat.le_of_ble_eq_true rfl) ?_
  intro p e s m args below meth c ls H locs E hK hBs hnm hI hl
  have hl : lv_has ls 2 [(0, .ref (ad 0)), (1, .int x1)] := hl
  have E : Cx p s m args meth c RX12 cX12_rule 2 none := E
  obtain ⟨hx, hb, hr, hml, hown, hu, hlocks⟩ := id E
  rw [f_X12_rule] at hf
  refine lv_aload_n hx hb dX12_rule_0 rfl (lv_at hl 0 rfl) ?_
  refine lv_bipush (v := 10) hx hb dX12_rule_1 (by decide) ?_
  refine lv_iload_n hx hb dX12_rule_3 rfl (lv_at hl 1 rfl) ?_
  refine lv_iadd hx hb dX12_rule_4 ?_
  refine s_afI hI (s_runV (rest := []) (As := [.int (10 + x1)]) (np := 1) E hK hI (s_B hcl hBs hI) hcl.2 (mE hE eM_0) rfl (c_X12_isKey l D K sh ad cy X B hcl hE G L O (10 + x1) rfl) kyX12_isKey u5_185 u5_187 up_32 (by decide) rfl hl.1 rfl (Nat.le_of_ble_eq_true rfl) ⟨Nat.zero_le _, Nat.zero_le _⟩ dX12_rule_5) (fun H locs hI => ?_)
  refine lv_if_ne (tgt := 16) hx hb dX12_rule_8 (by decide) (fun c1 => ?_) (fun c1 => ?_)
  · have hf := ite_f c1 hf
    refine lv_aload_n hx hb dX12_rule_16 rfl (lv_at hl 0 rfl) ?_
    obtain ⟨G2, h3, hf⟩ := bndO_i hf
    refine s_afV hI (s_runV (rest := []) (As := []) (np := 0) E hK hI (s_B hcl hBs hI) hcl.2 (mE hE eM_0) rfl (c_X12_next l D K sh ad cy X B hcl hE G L O  h3) kyX12_next u5_167 u5_169 up_29 (by decide) rfl hl.1 rfl (Nat.le_of_ble_eq_true rfl) ⟨Nat.zero_le _, Nat.zero_le _⟩ dX12_rule_17) (fun H locs hI => ?_)
    refine lv_aload_n hx hb dX12_rule_20 rfl (lv_at hl 0 rfl) ?_
    obtain ⟨G4, h5, hf⟩ := bndO_i hf
    refine s_afV hI (s_runV (rest := []) (As := []) (np := 0) E hK hI (s_B hcl hBs hI) hcl.2 (mE hE eM_0) rfl ((ihM_all 60 l D K sh ad cy X B hcl hE G2 L O G4).1 h5) kyX12_either u5_193 u5_195 up_34 (by decide) rfl hl.1 rfl (Nat.le_of_ble_eq_true rfl) ⟨Nat.zero_le _, Nat.zero_le _⟩ dX12_rule_21) (fun H locs hI => ?_)
    refine lv_aload_n hx hb dX12_rule_24 rfl (lv_at hl 0 rfl) ?_
    refine lv_bipush (v := 59) hx hb dX12_rule_25 (by decide) ?_
    refine s_afI hI (s_runV (rest := []) (As := [.int 59]) (np := 1) E hK hI (s_B hcl hBs hI) hcl.2 (mE hE eM_0) rfl (c_X12_isSign l D K sh ad cy X B hcl hE G4 L O 59 rfl) kyX12_isSign u5_225 u5_227 up_42 (by decide) rfl hl.1 rfl (Nat.le_of_ble_eq_true rfl) ⟨Nat.zero_le _, Nat.zero_le _⟩ dX12_rule_27) (fun H locs hI => ?_)
    refine lv_if_ne (tgt := 38) hx hb dX12_rule_30 (by decide) (fun c6 => ?_) (fun c6 => ?_)
    · have hf := ite_f c6 hf
      refine lv_aload_n hx hb dX12_rule_38 rfl (lv_at hl 0 rfl) ?_
      obtain ⟨G7, h8, hf⟩ := bndO_i hf
      refine s_afV hI (s_runV (rest := []) (As := []) (np := 0) E hK hI (s_B hcl hBs hI) hcl.2 (mE hE eM_0) rfl (c_X12_next l D K sh ad cy X B hcl hE G4 L O  h8) kyX12_next u5_167 u5_169 up_29 (by decide) rfl hl.1 rfl (Nat.le_of_ble_eq_true rfl) ⟨Nat.zero_le _, Nat.zero_le _⟩ dX12_rule_39) (fun H locs hI => ?_)
      refine lv_aload_n hx hb dX12_rule_42 rfl (lv_at hl 0 rfl) ?_
      refine s_get (v := .ref (ad 13)) hx hb hu inU12 hown hK hI (mE hE eM_0) rfl 19 (by decide) u4_207 (fun _ h => h) rfl rfl dX12_rule_43 ?_
      refine lv_bipush (v := 18) hx hb dX12_rule_46 (by decide) ?_
      refine lv_iload_n hx hb dX12_rule_48 rfl (lv_at hl 1 rfl) ?_
      refine lv_iadd hx hb dX12_rule_49 ?_
      refine lv_aload_n hx hb dX12_rule_50 rfl (lv_at hl 0 rfl) ?_
      refine s_get (v := .int (G7 0 20)) hx hb hu inU12 hown hK hI (mE hE eM_0) rfl 20 (by decide) u4_208 (fun _ h => h) rfl rfl dX12_rule_51 ?_
      obtain ⟨h9, hf⟩ := chk_i hf
      obtain ⟨G10, eG10, hf⟩ := bnd_i hf
      refine s_ist hx hb hK hI (mE hE eM_13) (inB_i h9) eG10 dX12_rule_54 (fun H locs hI => ?_)
      cases hf
      exact s_vret hx hb hr hI.2.2 hI.1 hlocks dX12_rule_55
    · have hf := ite_t c6 hf
      refine lv_aload_n hx hb dX12_rule_33 rfl (lv_at hl 0 rfl) ?_
      obtain ⟨G11, h12, hf⟩ := bndO_i hf
      refine s_afV hI (s_runV (rest := []) (As := []) (np := 0) E hK hI (s_B hcl hBs hI) hcl.2 (mE hE eM_0) rfl (c_X12_faulty l D K sh ad cy X B hcl hE G4 L O  h12) kyX12_faulty u5_189 u5_191 up_33 (by decide) rfl hl.1 rfl (Nat.le_of_ble_eq_true rfl) ⟨Nat.zero_le _, Nat.zero_le _⟩ dX12_rule_34) (fun H locs hI => ?_)
      cases hf
      exact s_vret hx hb hr hI.2.2 hI.1 hlocks dX12_rule_37
  · have hf := ite_t c1 hf
    refine lv_aload_n hx hb dX12_rule_11 rfl (lv_at hl 0 rfl) ?_
    obtain ⟨G13, h14, hf⟩ := bndO_i hf
    refine s_afV hI (s_runV (rest := []) (As := []) (np := 0) E hK hI (s_B hcl hBs hI) hcl.2 (mE hE eM_0) rfl (c_X12_faulty l D K sh ad cy X B hcl hE G L O  h14) kyX12_faulty u5_189 u5_191 up_33 (by decide) rfl hl.1 rfl (Nat.le_of_ble_eq_true rfl) ⟨Nat.zero_le _, Nat.zero_le _⟩ dX12_rule_12) (fun H locs hI => ?_)
    cases hf
    exact s_vret hx hb hr hI.2.2 hI.1 hlocks dX12_rule_15
noncomputable def q_X12_text_168   (rec : (Mem × Int32) → Option (Mem × Int32)) : (Mem × Int32) → Option (Mem × Int32) := fun (G, x1) => (if 3 ≤ x1 then bnd (up2 G 0 15 ((G 0 15) + 1)) (fun G14 => some (G14, ((G14 0 15) - 1))) else chk (inB (18 + x1) 21) (chk (inB ((3 * (G 0 15)) + x1) 21) (bnd (up2 G 13 ((3 * (G 0 15)) + x1).toNatClampNeg (G 13 (18 + x1).toNatClampNeg)) (fun G17 => bnd (x1 + 1) (fun x1_18 => rec (G17, x1_18))))))
noncomputable def q_X12_text_102   (rec : (Mem × Int32) → Option (Mem × Int32)) : (Mem × Int32) → Option (Mem × Int32) := fun (G, x1) => (if (G 0 20) ≤ x1 then iter (q_X12_text_168) fuel (G, 0) else chk (inB (1020 + x1) 1190) (chk (inB ((170 * (G 0 15)) + x1) 1190) (bnd (up2 G 11 ((170 * (G 0 15)) + x1).toNatClampNeg (G 11 (1020 + x1).toNatClampNeg)) (fun G21 => chk (inB (1020 + x1) 1190) (chk (inB ((170 * (G21 0 15)) + x1) 1190) (bnd (up2 G21 12 ((170 * (G21 0 15)) + x1).toNatClampNeg (G21 12 (1020 + x1).toNatClampNeg)) (fun G24 => bnd (x1 + 1) (fun x1_25 => rec (G24, x1_25)))))))))
noncomputable def j_X12_text_80   (G : Mem) : Option (Mem × Int32) := bnd (up2 G 0 14 0) (fun G10 => (if (G10 0 21) < 0 then iter (q_X12_text_102) fuel (G10, 0) else some (G10, ((-100) - (G10 0 21)))))
noncomputable def j_X12_text_61   (G : Mem) : Option (Mem × Int32) := (if 0 ≤ (G 0 21) then j_X12_text_80 G else (if (G 0 25) = 4 then j_X12_text_80 G else bndO (f_X12_faulty G) (fun G27 => j_X12_text_80 G27)))
noncomputable def q_X12_text_38   (rec : (Mem × Int32) → Option (Mem × Int32)) : (Mem × Int32) → Option (Mem × Int32) := fun (G, x1) => (if 2 < x1 then j_X12_text_61 G else (if 0 ≤ (G 0 21) then j_X12_text_61 G else bndO (f_X12_rule G x1) (fun G30 => bnd (x1 + 1) (fun x1_32 => rec (G30, x1_32)))))
noncomputable def f_X12_text (G : Mem)  : Option (Mem × Int32) := (if (G 0 15) = 6 then some (G, (-4)) else bnd (up2 G 0 24 0) (fun G2 => bnd (up2 G2 0 21 (-1)) (fun G3 => bnd (up2 G3 0 22 0) (fun G4 => bnd (up2 G4 0 20 0) (fun G5 => bndO (f_X12_next G5) (fun G6 => iter (q_X12_text_38) fuel (G6, 0)))))))
theorem kyX12_text : Ky yX12_text cX12_text 2 (some FieldType.int) 0 := ⟨u5_166, u1_15, by decide, by decide, by decide, by decide +kernel⟩
set_option maxHeartbeats 4000000 in
set_option maxRecDepth 100000 in
theorem c_X12_text (l : Launch) (D : va_G) (K : List Nat) (sh : Nat → Ent) (ad : Nat → Nat) (cy : Nat → ClassId) (X : va_W) (B : State → Prop) (hcl : Bcl (AS K ad X) B) (hE : ∀ q ∈ shM, q.1 ∈ K ∧ sh q.1 = q.2) (G : Mem) (L : MemL) (O : MemO)  {Gz : Mem} {vz : Int32} (hf : f_X12_text G = some (Gz, vz)) : Met l yX12_text (wsU yX12_text cX12_text 2 (some FieldType.int)) (rmX 66 0 0) (va_Pc [.ref (ad 0)] (PS D K sh ad cy X B G L O)) (QI (AS K ad X) (PH D K sh ad cy X Gz L O) vz) 0 0 (AS K ad X) := by
  refine s_met (by decide) (Nat.le_of_ble_eq_true rfl) ?_
  intro p e s m args below meth c ls H locs E hK hBs hnm hI hl
  have hl : lv_has ls 2 [(0, .ref (ad 0))] := hl
  have E : Cx p s m args meth c RX12 cX12_text 2 (some FieldType.int) := E
  obtain ⟨hx, hb, hr, hml, hown, hu, hlocks⟩ := id E
  have B168 : ∀   (n : Nat) (G : Mem) (x1 : Int32) (H : Heap) (locs : List Loc) (ls : Array Slot), lv_has ls 2 [(0, .ref (ad 0)), (1, .int x1)] → IS D K sh ad cy X (AS K ad X) s.heap H locs G L O → iter (q_X12_text_168) n (G, x1) = some (Gz, vz) → W p l e (rmX 66 0 0) s m args below meth c H locs 0 0 (MQ below (QI (AS K ad X) (PH D K sh ad cy X Gz L O) vz) args s 0 0 (AS K ad X)) (F0 m 168 ls []) := by
    intro n
    induction n with
    | zero => intro G x1 H locs ls hl hI hf; exact iter_0 hf
    | succ n ih =>
      intro G x1 H locs ls hl hI hf
      have hf : q_X12_text_168 (iter (q_X12_text_168) n) (G, x1) = some (Gz, vz) := hf
      rw [q_X12_text_168] at hf
      refine lv_iload_n hx hb dX12_text_168 rfl (lv_at hl 1 rfl) ?_
      refine lv_iconst (v := 3) hx hb dX12_text_169 (by decide) ?_
      refine lv_icmp_ge (tgt := 201) hx hb dX12_text_170 (by decide) (fun c13 => ?_) (fun c13 => ?_)
      · have hf := ite_t c13 hf
        refine lv_aload_n hx hb dX12_text_201 rfl (lv_at hl 0 rfl) ?_
        refine lv_dup hx hb dX12_text_202 rfl ?_
        refine s_get (v := .int (G 0 15)) hx hb hu inU12 hown hK hI (mE hE eM_0) rfl 15 (by decide) u4_203 (fun _ h => h) rfl rfl dX12_text_203 ?_
        refine lv_iconst (v := 1) hx hb dX12_text_206 (by decide) ?_
        refine lv_iadd hx hb dX12_text_207 ?_
        obtain ⟨G14, eG14, hf⟩ := bnd_i hf
        refine s_put (ty := .int) hx hb hu inU12 tyX12_ok nmX12 hown hK hI (mE hE eM_0) rfl 15 (by decide) u4_203 (fun _ h => h) rfl rfl (tyX12_ok 15 (by decide)) rfl rfl eG14 dX12_text_208 (fun H locs hI => ?_)
        refine lv_aload_n hx hb dX12_text_211 rfl (lv_at hl 0 rfl) ?_
        refine s_get (v := .int (G14 0 15)) hx hb hu inU12 hown hK hI (mE hE eM_0) rfl 15 (by decide) u4_203 (fun _ h => h) rfl rfl dX12_text_212 ?_
        refine lv_iconst (v := 1) hx hb dX12_text_215 (by decide) ?_
        refine lv_isub hx hb dX12_text_216 ?_
        cases hf
        exact s_iret hx hb hr hI.2.2 hI.1 hlocks dX12_text_217
      · have hf := ite_f c13 hf
        refine lv_aload_n hx hb dX12_text_173 rfl (lv_at hl 0 rfl) ?_
        refine s_get (v := .ref (ad 13)) hx hb hu inU12 hown hK hI (mE hE eM_0) rfl 19 (by decide) u4_207 (fun _ h => h) rfl rfl dX12_text_174 ?_
        refine lv_iconst (v := 3) hx hb dX12_text_177 (by decide) ?_
        refine lv_aload_n hx hb dX12_text_178 rfl (lv_at hl 0 rfl) ?_
        refine s_get (v := .int (G 0 15)) hx hb hu inU12 hown hK hI (mE hE eM_0) rfl 15 (by decide) u4_203 (fun _ h => h) rfl rfl dX12_text_179 ?_
        refine lv_imul hx hb dX12_text_182 ?_
        refine lv_iload_n hx hb dX12_text_183 rfl (lv_at hl 1 rfl) ?_
        refine lv_iadd hx hb dX12_text_184 ?_
        refine lv_aload_n hx hb dX12_text_185 rfl (lv_at hl 0 rfl) ?_
        refine s_get (v := .ref (ad 13)) hx hb hu inU12 hown hK hI (mE hE eM_0) rfl 19 (by decide) u4_207 (fun _ h => h) rfl rfl dX12_text_186 ?_
        refine lv_bipush (v := 18) hx hb dX12_text_189 (by decide) ?_
        refine lv_iload_n hx hb dX12_text_191 rfl (lv_at hl 1 rfl) ?_
        refine lv_iadd hx hb dX12_text_192 ?_
        obtain ⟨h15, hf⟩ := chk_i hf
        refine s_ild hx hb hK hI (mE hE eM_13) (inB_i h15) dX12_text_193 ?_
        obtain ⟨h16, hf⟩ := chk_i hf
        obtain ⟨G17, eG17, hf⟩ := bnd_i hf
        refine s_ist hx hb hK hI (mE hE eM_13) (inB_i h16) eG17 dX12_text_194 (fun H locs hI => ?_)
        obtain ⟨x1_18, ex1_18, hf⟩ := bnd_i hf
        refine lv_iinc (v := x1_18) (lv' := [(1, .int x1_18), (0, .ref (ad 0))]) hx hb dX12_text_195 hl (k := 1) rfl (by rw [ex1_18]; rfl) (by decide) rfl (fun ls hl => ?_)
        refine lv_goto (tgt := 168) hx hb dX12_text_198 (by decide) ?_
        exact ih G17 x1_18 H locs ls (lv_sub hl [1, 0] rfl) hI hf
  have B102 : ∀   (n : Nat) (G : Mem) (x1 : Int32) (H : Heap) (locs : List Loc) (ls : Array Slot), lv_has ls 2 [(0, .ref (ad 0)), (1, .int x1)] → IS D K sh ad cy X (AS K ad X) s.heap H locs G L O → iter (q_X12_text_102) n (G, x1) = some (Gz, vz) → W p l e (rmX 66 0 0) s m args below meth c H locs 0 0 (MQ below (QI (AS K ad X) (PH D K sh ad cy X Gz L O) vz) args s 0 0 (AS K ad X)) (F0 m 102 ls []) := by
    intro n
    induction n with
    | zero => intro G x1 H locs ls hl hI hf; exact iter_0 hf
    | succ n ih =>
      intro G x1 H locs ls hl hI hf
      have hf : q_X12_text_102 (iter (q_X12_text_102) n) (G, x1) = some (Gz, vz) := hf
      rw [q_X12_text_102] at hf
      refine lv_iload_n hx hb dX12_text_102 rfl (lv_at hl 1 rfl) ?_
      refine lv_aload_n hx hb dX12_text_103 rfl (lv_at hl 0 rfl) ?_
      refine s_get (v := .int (G 0 20)) hx hb hu inU12 hown hK hI (mE hE eM_0) rfl 20 (by decide) u4_208 (fun _ h => h) rfl rfl dX12_text_104 ?_
      refine lv_icmp_ge (tgt := 166) hx hb dX12_text_107 (by decide) (fun c12 => ?_) (fun c12 => ?_)
      · have hf := ite_t c12 hf
        refine lv_iconst (v := 0) hx hb dX12_text_166 (by decide) ?_
        refine lv_istore_n (lv' := [(1, .int 0), (0, .ref (ad 0))]) hx hb dX12_text_167 rfl hl (by decide) rfl (fun ls hl => ?_)
        exact B168   fuel G 0 H locs ls (lv_sub hl [1, 0] rfl) hI hf
      · have hf := ite_f c12 hf
        refine lv_aload_n hx hb dX12_text_110 rfl (lv_at hl 0 rfl) ?_
        refine s_get (v := .ref (ad 11)) hx hb hu inU12 hown hK hI (mE hE eM_0) rfl 17 (by decide) u4_205 (fun _ h => h) rfl rfl dX12_text_111 ?_
        refine lv_sipush (v := 170) hx hb dX12_text_114 (by decide) ?_
        refine lv_aload_n hx hb dX12_text_117 rfl (lv_at hl 0 rfl) ?_
        refine s_get (v := .int (G 0 15)) hx hb hu inU12 hown hK hI (mE hE eM_0) rfl 15 (by decide) u4_203 (fun _ h => h) rfl rfl dX12_text_118 ?_
        refine lv_imul hx hb dX12_text_121 ?_
        refine lv_iload_n hx hb dX12_text_122 rfl (lv_at hl 1 rfl) ?_
        refine lv_iadd hx hb dX12_text_123 ?_
        refine lv_aload_n hx hb dX12_text_124 rfl (lv_at hl 0 rfl) ?_
        refine s_get (v := .ref (ad 11)) hx hb hu inU12 hown hK hI (mE hE eM_0) rfl 17 (by decide) u4_205 (fun _ h => h) rfl rfl dX12_text_125 ?_
        refine lv_sipush (v := 1020) hx hb dX12_text_128 (by decide) ?_
        refine lv_iload_n hx hb dX12_text_131 rfl (lv_at hl 1 rfl) ?_
        refine lv_iadd hx hb dX12_text_132 ?_
        obtain ⟨h19, hf⟩ := chk_i hf
        refine s_ild hx hb hK hI (mE hE eM_11) (inB_i h19) dX12_text_133 ?_
        obtain ⟨h20, hf⟩ := chk_i hf
        obtain ⟨G21, eG21, hf⟩ := bnd_i hf
        refine s_ist hx hb hK hI (mE hE eM_11) (inB_i h20) eG21 dX12_text_134 (fun H locs hI => ?_)
        refine lv_aload_n hx hb dX12_text_135 rfl (lv_at hl 0 rfl) ?_
        refine s_get (v := .ref (ad 12)) hx hb hu inU12 hown hK hI (mE hE eM_0) rfl 18 (by decide) u4_206 (fun _ h => h) rfl rfl dX12_text_136 ?_
        refine lv_sipush (v := 170) hx hb dX12_text_139 (by decide) ?_
        refine lv_aload_n hx hb dX12_text_142 rfl (lv_at hl 0 rfl) ?_
        refine s_get (v := .int (G21 0 15)) hx hb hu inU12 hown hK hI (mE hE eM_0) rfl 15 (by decide) u4_203 (fun _ h => h) rfl rfl dX12_text_143 ?_
        refine lv_imul hx hb dX12_text_146 ?_
        refine lv_iload_n hx hb dX12_text_147 rfl (lv_at hl 1 rfl) ?_
        refine lv_iadd hx hb dX12_text_148 ?_
        refine lv_aload_n hx hb dX12_text_149 rfl (lv_at hl 0 rfl) ?_
        refine s_get (v := .ref (ad 12)) hx hb hu inU12 hown hK hI (mE hE eM_0) rfl 18 (by decide) u4_206 (fun _ h => h) rfl rfl dX12_text_150 ?_
        refine lv_sipush (v := 1020) hx hb dX12_text_153 (by decide) ?_
        refine lv_iload_n hx hb dX12_text_156 rfl (lv_at hl 1 rfl) ?_
        refine lv_iadd hx hb dX12_text_157 ?_
        obtain ⟨h22, hf⟩ := chk_i hf
        refine s_ild hx hb hK hI (mE hE eM_12) (inB_i h22) dX12_text_158 ?_
        obtain ⟨h23, hf⟩ := chk_i hf
        obtain ⟨G24, eG24, hf⟩ := bnd_i hf
        refine s_ist hx hb hK hI (mE hE eM_12) (inB_i h23) eG24 dX12_text_159 (fun H locs hI => ?_)
        obtain ⟨x1_25, ex1_25, hf⟩ := bnd_i hf
        refine lv_iinc (v := x1_25) (lv' := [(1, .int x1_25), (0, .ref (ad 0))]) hx hb dX12_text_160 hl (k := 1) rfl (by rw [ex1_25]; rfl) (by decide) rfl (fun ls hl => ?_)
        refine lv_goto (tgt := 102) hx hb dX12_text_163 (by decide) ?_
        exact ih G24 x1_25 H locs ls (lv_sub hl [1, 0] rfl) hI hf
  have B80 : ∀    (G : Mem) (H : Heap) (locs : List Loc) (ls : Array Slot), lv_has ls 2 [(0, .ref (ad 0))] → IS D K sh ad cy X (AS K ad X) s.heap H locs G L O → j_X12_text_80 G = some (Gz, vz) → W p l e (rmX 66 0 0) s m args below meth c H locs 0 0 (MQ below (QI (AS K ad X) (PH D K sh ad cy X Gz L O) vz) args s 0 0 (AS K ad X)) (F0 m 80 ls []) := by
    intro  G H locs ls hl hI hf
    rw [j_X12_text_80] at hf
    refine lv_aload_n hx hb dX12_text_80 rfl (lv_at hl 0 rfl) ?_
    refine lv_iconst (v := 0) hx hb dX12_text_81 (by decide) ?_
    obtain ⟨G10, eG10, hf⟩ := bnd_i hf
    refine s_put (ty := .int) hx hb hu inU12 tyX12_ok nmX12 hown hK hI (mE hE eM_0) rfl 14 (by decide) u4_202 (fun _ h => h) rfl rfl (tyX12_ok 14 (by decide)) rfl rfl eG10 dX12_text_82 (fun H locs hI => ?_)
    refine lv_aload_n hx hb dX12_text_85 rfl (lv_at hl 0 rfl) ?_
    refine s_get (v := .int (G10 0 21)) hx hb hu inU12 hown hK hI (mE hE eM_0) rfl 21 (by decide) u4_209 (fun _ h => h) rfl rfl dX12_text_86 ?_
    refine lv_if_lt (tgt := 100) hx hb dX12_text_89 (by decide) (fun c11 => ?_) (fun c11 => ?_)
    · have hf := ite_t c11 hf
      refine lv_iconst (v := 0) hx hb dX12_text_100 (by decide) ?_
      refine lv_istore_n (lv' := [(1, .int 0), (0, .ref (ad 0))]) hx hb dX12_text_101 rfl hl (by decide) rfl (fun ls hl => ?_)
      exact B102   fuel G10 0 H locs ls (lv_sub hl [1, 0] rfl) hI hf
    · have hf := ite_f c11 hf
      refine lv_bipush (v := (-100)) hx hb dX12_text_92 (by decide) ?_
      refine lv_aload_n hx hb dX12_text_94 rfl (lv_at hl 0 rfl) ?_
      refine s_get (v := .int (G10 0 21)) hx hb hu inU12 hown hK hI (mE hE eM_0) rfl 21 (by decide) u4_209 (fun _ h => h) rfl rfl dX12_text_95 ?_
      refine lv_isub hx hb dX12_text_98 ?_
      cases hf
      exact s_iret hx hb hr hI.2.2 hI.1 hlocks dX12_text_99
  have B61 : ∀    (G : Mem) (H : Heap) (locs : List Loc) (ls : Array Slot), lv_has ls 2 [(0, .ref (ad 0))] → IS D K sh ad cy X (AS K ad X) s.heap H locs G L O → j_X12_text_61 G = some (Gz, vz) → W p l e (rmX 66 0 0) s m args below meth c H locs 0 0 (MQ below (QI (AS K ad X) (PH D K sh ad cy X Gz L O) vz) args s 0 0 (AS K ad X)) (F0 m 61 ls []) := by
    intro  G H locs ls hl hI hf
    rw [j_X12_text_61] at hf
    refine lv_aload_n hx hb dX12_text_61 rfl (lv_at hl 0 rfl) ?_
    refine s_get (v := .int (G 0 21)) hx hb hu inU12 hown hK hI (mE hE eM_0) rfl 21 (by decide) u4_209 (fun _ h => h) rfl rfl dX12_text_62 ?_
    refine lv_if_ge (tgt := 80) hx hb dX12_text_65 (by decide) (fun c9 => ?_) (fun c9 => ?_)
    · have hf := ite_t c9 hf
      exact B80    G H locs ls (lv_sub hl [0] rfl) hI hf
    · have hf := ite_f c9 hf
      refine lv_aload_n hx hb dX12_text_68 rfl (lv_at hl 0 rfl) ?_
      refine s_get (v := .int (G 0 25)) hx hb hu inU12 hown hK hI (mE hE eM_0) rfl 25 (by decide) u4_213 (fun _ h => h) rfl rfl dX12_text_69 ?_
      refine lv_iconst (v := 4) hx hb dX12_text_72 (by decide) ?_
      refine lv_icmp_eq (tgt := 80) hx hb dX12_text_73 (by decide) (fun c26 => ?_) (fun c26 => ?_)
      · have hf := ite_t c26 hf
        exact B80    G H locs ls (lv_sub hl [0] rfl) hI hf
      · have hf := ite_f c26 hf
        refine lv_aload_n hx hb dX12_text_76 rfl (lv_at hl 0 rfl) ?_
        obtain ⟨G27, h28, hf⟩ := bndO_i hf
        refine s_afV hI (s_runV (rest := []) (As := []) (np := 0) E hK hI (s_B hcl hBs hI) hcl.2 (mE hE eM_0) rfl (c_X12_faulty l D K sh ad cy X B hcl hE G L O  h28) kyX12_faulty u5_189 u5_191 up_33 (by decide) rfl hl.1 rfl (Nat.le_of_ble_eq_true rfl) ⟨Nat.zero_le _, Nat.zero_le _⟩ dX12_text_77) (fun H locs hI => ?_)
        exact B80    G27 H locs ls (lv_sub hl [0] rfl) hI hf
  have B38 : ∀   (n : Nat) (G : Mem) (x1 : Int32) (H : Heap) (locs : List Loc) (ls : Array Slot), lv_has ls 2 [(0, .ref (ad 0)), (1, .int x1)] → IS D K sh ad cy X (AS K ad X) s.heap H locs G L O → iter (q_X12_text_38) n (G, x1) = some (Gz, vz) → W p l e (rmX 66 0 0) s m args below meth c H locs 0 0 (MQ below (QI (AS K ad X) (PH D K sh ad cy X Gz L O) vz) args s 0 0 (AS K ad X)) (F0 m 38 ls []) := by
    intro n
    induction n with
    | zero => intro G x1 H locs ls hl hI hf; exact iter_0 hf
    | succ n ih =>
      intro G x1 H locs ls hl hI hf
      have hf : q_X12_text_38 (iter (q_X12_text_38) n) (G, x1) = some (Gz, vz) := hf
      rw [q_X12_text_38] at hf
      refine lv_iload_n hx hb dX12_text_38 rfl (lv_at hl 1 rfl) ?_
      refine lv_iconst (v := 2) hx hb dX12_text_39 (by decide) ?_
      refine lv_icmp_gt (tgt := 61) hx hb dX12_text_40 (by decide) (fun c8 => ?_) (fun c8 => ?_)
      · have hf := ite_t c8 hf
        exact B61    G H locs ls (lv_sub hl [0] rfl) hI hf
      · have hf := ite_f c8 hf
        refine lv_aload_n hx hb dX12_text_43 rfl (lv_at hl 0 rfl) ?_
        refine s_get (v := .int (G 0 21)) hx hb hu inU12 hown hK hI (mE hE eM_0) rfl 21 (by decide) u4_209 (fun _ h => h) rfl rfl dX12_text_44 ?_
        refine lv_if_ge (tgt := 61) hx hb dX12_text_47 (by decide) (fun c29 => ?_) (fun c29 => ?_)
        · have hf := ite_t c29 hf
          exact B61    G H locs ls (lv_sub hl [0] rfl) hI hf
        · have hf := ite_f c29 hf
          refine lv_aload_n hx hb dX12_text_50 rfl (lv_at hl 0 rfl) ?_
          refine lv_iload_n hx hb dX12_text_51 rfl (lv_at hl 1 rfl) ?_
          obtain ⟨G30, h31, hf⟩ := bndO_i hf
          refine s_afV hI (s_runV (rest := []) (As := [.int x1]) (np := 1) E hK hI (s_B hcl hBs hI) hcl.2 (mE hE eM_0) rfl (c_X12_rule l D K sh ad cy X B hcl hE G L O x1 h31) kyX12_rule u5_181 u5_183 up_31 (by decide) rfl hl.1 rfl (Nat.le_of_ble_eq_true rfl) ⟨Nat.zero_le _, Nat.zero_le _⟩ dX12_text_52) (fun H locs hI => ?_)
          obtain ⟨x1_32, ex1_32, hf⟩ := bnd_i hf
          refine lv_iinc (v := x1_32) (lv' := [(1, .int x1_32), (0, .ref (ad 0))]) hx hb dX12_text_55 hl (k := 1) rfl (by rw [ex1_32]; rfl) (by decide) rfl (fun ls hl => ?_)
          refine lv_goto (tgt := 38) hx hb dX12_text_58 (by decide) ?_
          exact ih G30 x1_32 H locs ls (lv_sub hl [1, 0] rfl) hI hf
  rw [f_X12_text] at hf
  refine lv_aload_n hx hb dX12_text_0 rfl (lv_at hl 0 rfl) ?_
  refine s_get (v := .int (G 0 15)) hx hb hu inU12 hown hK hI (mE hE eM_0) rfl 15 (by decide) u4_203 (fun _ h => h) rfl rfl dX12_text_1 ?_
  refine lv_bipush (v := 6) hx hb dX12_text_4 (by decide) ?_
  refine lv_icmp_ne (tgt := 12) hx hb dX12_text_6 (by decide) (fun c1 => ?_) (fun c1 => ?_)
  · have hf := ite_f c1 hf
    refine lv_aload_n hx hb dX12_text_12 rfl (lv_at hl 0 rfl) ?_
    refine lv_iconst (v := 0) hx hb dX12_text_13 (by decide) ?_
    obtain ⟨G2, eG2, hf⟩ := bnd_i hf
    refine s_put (ty := .int) hx hb hu inU12 tyX12_ok nmX12 hown hK hI (mE hE eM_0) rfl 24 (by decide) u4_212 (fun _ h => h) rfl rfl (tyX12_ok 24 (by decide)) rfl rfl eG2 dX12_text_14 (fun H locs hI => ?_)
    refine lv_aload_n hx hb dX12_text_17 rfl (lv_at hl 0 rfl) ?_
    refine lv_iconst (v := (-1)) hx hb dX12_text_18 (by decide) ?_
    obtain ⟨G3, eG3, hf⟩ := bnd_i hf
    refine s_put (ty := .int) hx hb hu inU12 tyX12_ok nmX12 hown hK hI (mE hE eM_0) rfl 21 (by decide) u4_209 (fun _ h => h) rfl rfl (tyX12_ok 21 (by decide)) rfl rfl eG3 dX12_text_19 (fun H locs hI => ?_)
    refine lv_aload_n hx hb dX12_text_22 rfl (lv_at hl 0 rfl) ?_
    refine lv_iconst (v := 0) hx hb dX12_text_23 (by decide) ?_
    obtain ⟨G4, eG4, hf⟩ := bnd_i hf
    refine s_put (ty := .int) hx hb hu inU12 tyX12_ok nmX12 hown hK hI (mE hE eM_0) rfl 22 (by decide) u4_210 (fun _ h => h) rfl rfl (tyX12_ok 22 (by decide)) rfl rfl eG4 dX12_text_24 (fun H locs hI => ?_)
    refine lv_aload_n hx hb dX12_text_27 rfl (lv_at hl 0 rfl) ?_
    refine lv_iconst (v := 0) hx hb dX12_text_28 (by decide) ?_
    obtain ⟨G5, eG5, hf⟩ := bnd_i hf
    refine s_put (ty := .int) hx hb hu inU12 tyX12_ok nmX12 hown hK hI (mE hE eM_0) rfl 20 (by decide) u4_208 (fun _ h => h) rfl rfl (tyX12_ok 20 (by decide)) rfl rfl eG5 dX12_text_29 (fun H locs hI => ?_)
    refine lv_aload_n hx hb dX12_text_32 rfl (lv_at hl 0 rfl) ?_
    obtain ⟨G6, h7, hf⟩ := bndO_i hf
    refine s_afV hI (s_runV (rest := []) (As := []) (np := 0) E hK hI (s_B hcl hBs hI) hcl.2 (mE hE eM_0) rfl (c_X12_next l D K sh ad cy X B hcl hE G5 L O  h7) kyX12_next u5_167 u5_169 up_29 (by decide) rfl hl.1 rfl (Nat.le_of_ble_eq_true rfl) ⟨Nat.zero_le _, Nat.zero_le _⟩ dX12_text_33) (fun H locs hI => ?_)
    refine lv_iconst (v := 0) hx hb dX12_text_36 (by decide) ?_
    refine lv_istore_n (lv' := [(1, .int 0), (0, .ref (ad 0))]) hx hb dX12_text_37 rfl hl (by decide) rfl (fun ls hl => ?_)
    exact B38   fuel G6 0 H locs ls (lv_sub hl [1, 0] rfl) hI hf
  · have hf := ite_t c1 hf
    refine lv_bipush (v := (-4)) hx hb dX12_text_9 (by decide) ?_
    cases hf
    exact s_iret hx hb hr hI.2.2 hI.1 hlocks dX12_text_11
noncomputable def f_X12_force (G : Mem) (x1 : Int32) : Option (Mem × Int32) := (if (f_X12_in x1 0 ((G 0 15) - 1)) = 0 then some (G, (-2)) else bnd (G 0 16) (fun x2_2 => bnd (up2 G 0 16 x1) (fun G3 => some (G3, x2_2))))
theorem kyX12_force : Ky yX12_force cX12_force 3 (some FieldType.int) 1 := ⟨u5_232, u1_15, by decide, by decide, by decide, by decide +kernel⟩
set_option maxHeartbeats 4000000 in
set_option maxRecDepth 100000 in
theorem c_X12_force (l : Launch) (D : va_G) (K : List Nat) (sh : Nat → Ent) (ad : Nat → Nat) (cy : Nat → ClassId) (X : va_W) (B : State → Prop) (hcl : Bcl (AS K ad X) B) (hE : ∀ q ∈ shM, q.1 ∈ K ∧ sh q.1 = q.2) (G : Mem) (L : MemL) (O : MemO) (x1 : Int32) {Gz : Mem} {vz : Int32} (hf : f_X12_force G x1 = some (Gz, vz)) : Met l yX12_force (wsU yX12_force cX12_force 3 (some FieldType.int)) (rmX 2 0 0) (va_Pc [.ref (ad 0), .int x1] (PS D K sh ad cy X B G L O)) (QI (AS K ad X) (PH D K sh ad cy X Gz L O) vz) 0 0 (AS K ad X) := by
  refine s_met (by decide) (Nat.le_of_ble_eq_true rfl) ?_
  intro p e s m args below meth c ls H locs E hK hBs hnm hI hl
  have hl : lv_has ls 3 [(0, .ref (ad 0)), (1, .int x1)] := hl
  have E : Cx p s m args meth c RX12 cX12_force 3 (some FieldType.int) := E
  obtain ⟨hx, hb, hr, hml, hown, hu, hlocks⟩ := id E
  rw [f_X12_force] at hf
  refine lv_iload_n hx hb dX12_force_0 rfl (lv_at hl 1 rfl) ?_
  refine lv_iconst (v := 0) hx hb dX12_force_1 (by decide) ?_
  refine lv_aload_n hx hb dX12_force_2 rfl (lv_at hl 0 rfl) ?_
  refine s_get (v := .int (G 0 15)) hx hb hu inU12 hown hK hI (mE hE eM_0) rfl 15 (by decide) u4_203 (fun _ h => h) rfl rfl dX12_force_3 ?_
  refine lv_iconst (v := 1) hx hb dX12_force_6 (by decide) ?_
  refine lv_isub hx hb dX12_force_7 ?_
  refine s_cSP (np := 3) (rest := []) E (c_X12_in l x1 0 ((G 0 15) - 1) rfl) kyX12_in u5_128 u5_129 (by decide) rfl hl.1 rfl (Nat.le_of_ble_eq_true rfl) ⟨Nat.zero_le _, Nat.zero_le _⟩ dX12_force_8 ?_
  refine lv_if_ne (tgt := 17) hx hb dX12_force_11 (by decide) (fun c1 => ?_) (fun c1 => ?_)
  · have hf := ite_f c1 hf
    refine lv_aload_n hx hb dX12_force_17 rfl (lv_at hl 0 rfl) ?_
    refine s_get (v := .int (G 0 16)) hx hb hu inU12 hown hK hI (mE hE eM_0) rfl 16 (by decide) u4_204 (fun _ h => h) rfl rfl dX12_force_18 ?_
    obtain ⟨x2_2, ex2_2, hf⟩ := bnd_i hf
    refine s_nmI ex2_2 ?_
    refine lv_istore_n (lv' := [(2, .int x2_2), (0, .ref (ad 0)), (1, .int x1)]) hx hb dX12_force_21 rfl hl (by decide) rfl (fun ls hl => ?_)
    refine lv_aload_n hx hb dX12_force_22 rfl (lv_at hl 1 rfl) ?_
    refine lv_iload_n hx hb dX12_force_23 rfl (lv_at hl 2 rfl) ?_
    obtain ⟨G3, eG3, hf⟩ := bnd_i hf
    refine s_put (ty := .int) hx hb hu inU12 tyX12_ok nmX12 hown hK hI (mE hE eM_0) rfl 16 (by decide) u4_204 (fun _ h => h) rfl rfl (tyX12_ok 16 (by decide)) rfl rfl eG3 dX12_force_24 (fun H locs hI => ?_)
    refine lv_iload_n hx hb dX12_force_27 rfl (lv_at hl 0 rfl) ?_
    cases hf
    exact s_iret hx hb hr hI.2.2 hI.1 hlocks dX12_force_28
  · have hf := ite_t c1 hf
    refine lv_bipush (v := (-2)) hx hb dX12_force_14 (by decide) ?_
    cases hf
    exact s_iret hx hb hr hI.2.2 hI.1 hlocks dX12_force_16
noncomputable def f_X12_twoOf  (x0 : Int32) (x1 : Int32) (x2 : Int32) : Int32 := (if x0 = 5 then (if x1 = 0 then (if x2 = 0 then 0 else 1) else 1) else if x0 = 6 then (if x1 = 0 then 0 else (if x2 = 0 then 0 else 1)) else if x0 = 43 then (x1 + x2) else if x0 = 45 then (x1 - x2) else if x0 = 60 then (if x2 ≤ x1 then 0 else 1) else if x0 = 61 then (if x1 = x2 then 1 else 0) else (x1 * x2))
theorem kyX12_twoOf : Ky yX12_twoOf cX12_twoOf 3 (some FieldType.int) 3 := ⟨u6_39, u1_15, by decide, by decide, by decide, by decide +kernel⟩
set_option maxHeartbeats 4000000 in
set_option maxRecDepth 100000 in
theorem c_X12_twoOf (l : Launch) (x0 : Int32) (x1 : Int32) (x2 : Int32)  {vz : Int32} (hf : f_X12_twoOf x0 x1 x2 = vz) : Met l yX12_twoOf (wsU yX12_twoOf cX12_twoOf 3 (some FieldType.int)) (rmX 1 0 0) (va_Pc [.int x0, .int x1, .int x2] (fun _ => True)) (QP vz) 0 0 noA := by
  refine s_met0 (by decide) (Nat.le_of_ble_eq_true rfl) ?_
  intro p e s m args below meth c ls E hl
  have hl : lv_has ls 3 [(0, .int x0), (1, .int x1), (2, .int x2)] := hl
  have E : Cx p s m args meth c RX12 cX12_twoOf 3 (some FieldType.int) := E
  obtain ⟨hx, hb, hr, hml, hown, hu, hlocks⟩ := id E
  rw [f_X12_twoOf] at hf
  refine lv_iload_n hx hb dX12_twoOf_0 rfl (lv_at hl 0 rfl) ?_
  by_cases c1 : x0 = 5
  · have hf := ite_t c1 hf
    refine s_lkp (tgt := 60) (off := 59) 5 E dX12_twoOf_1 (by decide) c1 (by decide) (by decide) ?_
    refine lv_iload_n hx hb dX12_twoOf_60 rfl (lv_at hl 1 rfl) ?_
    refine lv_if_ne (tgt := 68) hx hb dX12_twoOf_61 (by decide) (fun c2 => ?_) (fun c2 => ?_)
    · have hf := ite_f c2 hf
      refine lv_iconst (v := 1) hx hb dX12_twoOf_68 (by decide) ?_
      refine lv_goto (tgt := 73) hx hb dX12_twoOf_69 (by decide) ?_
      subst hf
      exact s_iretP rfl E dX12_twoOf_73
    · have hf := ite_t c2 hf
      refine lv_iload_n hx hb dX12_twoOf_64 rfl (lv_at hl 2 rfl) ?_
      refine lv_if_eq (tgt := 72) hx hb dX12_twoOf_65 (by decide) (fun c3 => ?_) (fun c3 => ?_)
      · have hf := ite_t c3 hf
        refine lv_iconst (v := 0) hx hb dX12_twoOf_72 (by decide) ?_
        subst hf
        exact s_iretP rfl E dX12_twoOf_73
      · have hf := ite_f c3 hf
        refine lv_iconst (v := 1) hx hb dX12_twoOf_68 (by decide) ?_
        refine lv_goto (tgt := 73) hx hb dX12_twoOf_69 (by decide) ?_
        subst hf
        exact s_iretP rfl E dX12_twoOf_73
  · have hf := ite_f c1 hf
    by_cases c4 : x0 = 6
    · have hf := ite_t c4 hf
      refine s_lkp (tgt := 74) (off := 73) 6 E dX12_twoOf_1 (by decide) c4 (by decide) (by decide) ?_
      refine lv_iload_n hx hb dX12_twoOf_74 rfl (lv_at hl 1 rfl) ?_
      refine lv_if_eq (tgt := 86) hx hb dX12_twoOf_75 (by decide) (fun c5 => ?_) (fun c5 => ?_)
      · have hf := ite_t c5 hf
        refine lv_iconst (v := 0) hx hb dX12_twoOf_86 (by decide) ?_
        subst hf
        exact s_iretP rfl E dX12_twoOf_87
      · have hf := ite_f c5 hf
        refine lv_iload_n hx hb dX12_twoOf_78 rfl (lv_at hl 2 rfl) ?_
        refine lv_if_eq (tgt := 86) hx hb dX12_twoOf_79 (by decide) (fun c6 => ?_) (fun c6 => ?_)
        · have hf := ite_t c6 hf
          refine lv_iconst (v := 0) hx hb dX12_twoOf_86 (by decide) ?_
          subst hf
          exact s_iretP rfl E dX12_twoOf_87
        · have hf := ite_f c6 hf
          refine lv_iconst (v := 1) hx hb dX12_twoOf_82 (by decide) ?_
          refine lv_goto (tgt := 87) hx hb dX12_twoOf_83 (by decide) ?_
          subst hf
          exact s_iretP rfl E dX12_twoOf_87
    · have hf := ite_f c4 hf
      by_cases c7 : x0 = 43
      · have hf := ite_t c7 hf
        refine s_lkp (tgt := 110) (off := 109) 43 E dX12_twoOf_1 (by decide) c7 (by decide) (by decide) ?_
        refine lv_iload_n hx hb dX12_twoOf_110 rfl (lv_at hl 1 rfl) ?_
        refine lv_iload_n hx hb dX12_twoOf_111 rfl (lv_at hl 2 rfl) ?_
        refine lv_iadd hx hb dX12_twoOf_112 ?_
        subst hf
        exact s_iretP rfl E dX12_twoOf_113
      · have hf := ite_f c7 hf
        by_cases c8 : x0 = 45
        · have hf := ite_t c8 hf
          refine s_lkp (tgt := 114) (off := 113) 45 E dX12_twoOf_1 (by decide) c8 (by decide) (by decide) ?_
          refine lv_iload_n hx hb dX12_twoOf_114 rfl (lv_at hl 1 rfl) ?_
          refine lv_iload_n hx hb dX12_twoOf_115 rfl (lv_at hl 2 rfl) ?_
          refine lv_isub hx hb dX12_twoOf_116 ?_
          subst hf
          exact s_iretP rfl E dX12_twoOf_117
        · have hf := ite_f c8 hf
          by_cases c9 : x0 = 60
          · have hf := ite_t c9 hf
            refine s_lkp (tgt := 88) (off := 87) 60 E dX12_twoOf_1 (by decide) c9 (by decide) (by decide) ?_
            refine lv_iload_n hx hb dX12_twoOf_88 rfl (lv_at hl 1 rfl) ?_
            refine lv_iload_n hx hb dX12_twoOf_89 rfl (lv_at hl 2 rfl) ?_
            refine lv_icmp_ge (tgt := 97) hx hb dX12_twoOf_90 (by decide) (fun c10 => ?_) (fun c10 => ?_)
            · have hf := ite_t c10 hf
              refine lv_iconst (v := 0) hx hb dX12_twoOf_97 (by decide) ?_
              subst hf
              exact s_iretP rfl E dX12_twoOf_98
            · have hf := ite_f c10 hf
              refine lv_iconst (v := 1) hx hb dX12_twoOf_93 (by decide) ?_
              refine lv_goto (tgt := 98) hx hb dX12_twoOf_94 (by decide) ?_
              subst hf
              exact s_iretP rfl E dX12_twoOf_98
          · have hf := ite_f c9 hf
            by_cases c11 : x0 = 61
            · have hf := ite_t c11 hf
              refine s_lkp (tgt := 99) (off := 98) 61 E dX12_twoOf_1 (by decide) c11 (by decide) (by decide) ?_
              refine lv_iload_n hx hb dX12_twoOf_99 rfl (lv_at hl 1 rfl) ?_
              refine lv_iload_n hx hb dX12_twoOf_100 rfl (lv_at hl 2 rfl) ?_
              refine lv_icmp_ne (tgt := 108) hx hb dX12_twoOf_101 (by decide) (fun c12 => ?_) (fun c12 => ?_)
              · have hf := ite_f c12 hf
                refine lv_iconst (v := 0) hx hb dX12_twoOf_108 (by decide) ?_
                subst hf
                exact s_iretP rfl E dX12_twoOf_109
              · have hf := ite_t c12 hf
                refine lv_iconst (v := 1) hx hb dX12_twoOf_104 (by decide) ?_
                refine lv_goto (tgt := 109) hx hb dX12_twoOf_105 (by decide) ?_
                subst hf
                exact s_iretP rfl E dX12_twoOf_109
            · have hf := ite_f c11 hf
              refine lv_lookup (tgt := 118) hx hb dX12_twoOf_1 (by decide) (show Op.lookupswitch.offset [(5, 59), (6, 73), (43, 109), (45, 113), (60, 87), (61, 98)] 117 x0.toInt = 117 by rw [lv_osw c1 (show (5 : Int32).toInt = 5 from rfl), lv_osw c4 (show (6 : Int32).toInt = 6 from rfl), lv_osw c7 (show (43 : Int32).toInt = 43 from rfl), lv_osw c8 (show (45 : Int32).toInt = 45 from rfl), lv_osw c9 (show (60 : Int32).toInt = 60 from rfl), lv_osw c11 (show (61 : Int32).toInt = 61 from rfl)]; rfl) (by decide) ?_
              refine lv_iload_n hx hb dX12_twoOf_118 rfl (lv_at hl 1 rfl) ?_
              refine lv_iload_n hx hb dX12_twoOf_119 rfl (lv_at hl 2 rfl) ?_
              refine lv_imul hx hb dX12_twoOf_120 ?_
              subst hf
              exact s_iretP rfl E dX12_twoOf_121
noncomputable def j_X12_gives_271 (x1 : Int32) (k79 : (Mem × Int32 × Int32) → Option (Mem × Int32)) (G : Mem) (x2 : Int32) (x4 : Int32) : Option (Mem × Int32) := bnd (x4 + 1) (fun x4_14 => k79 (G, x2, x4_14))
noncomputable def q_X12_gives_79 (x1 : Int32)  (rec : (Mem × Int32 × Int32) → Option (Mem × Int32)) : (Mem × Int32 × Int32) → Option (Mem × Int32) := fun (G, x2, x4) => chk (inB ((3 * (G 0 16)) + x1) 21) ((if ((170 * (G 0 16)) + (G 13 ((3 * (G 0 16)) + x1).toNatClampNeg)) ≤ x4 then some (G, (G 14 (0 : Int32).toNatClampNeg)) else chk (inB x4 1190) ((if (G 11 x4.toNatClampNeg) = 1 then chk (inB x4 1190) (chk (inB x2 170) (bnd (up2 G 14 x2.toNatClampNeg (G 12 x4.toNatClampNeg)) (fun G12 => bnd (x2 + 1) (fun x2_13 => j_X12_gives_271 x1 rec G12 x2_13 x4)))) else if (G 11 x4.toNatClampNeg) = 2 then chk (inB x4 1190) (chk (inB (G 12 x4.toNatClampNeg) 6) (chk (inB x2 170) (bnd (up2 G 14 x2.toNatClampNeg (G 15 (G 12 x4.toNatClampNeg).toNatClampNeg)) (fun G19 => bnd (x2 + 1) (fun x2_20 => j_X12_gives_271 x1 rec G19 x2_20 x4))))) else if (G 11 x4.toNatClampNeg) = 3 then chk (inB (x2 - 1) 170) ((if (G 14 (x2 - 1).toNatClampNeg) = 0 then chk (inB (x2 - 1) 170) (bnd (up2 G 14 (x2 - 1).toNatClampNeg 1) (fun G27 => j_X12_gives_271 x1 rec G27 x2 x4)) else chk (inB (x2 - 1) 170) (bnd (up2 G 14 (x2 - 1).toNatClampNeg 0) (fun G25 => j_X12_gives_271 x1 rec G25 x2 x4)))) else if (G 11 x4.toNatClampNeg) = 4 then chk (inB (x2 - 1) 170) (chk (inB (x2 - 1) 170) (bnd (up2 G 14 (x2 - 1).toNatClampNeg (-(G 14 (x2 - 1).toNatClampNeg))) (fun G31 => j_X12_gives_271 x1 rec G31 x2 x4))) else chk (inB x4 1190) (chk (inB (x2 - 2) 170) (chk (inB (x2 - 1) 170) (chk (inB (x2 - 2) 170) (bnd (up2 G 14 (x2 - 2).toNatClampNeg (f_X12_twoOf (G 11 x4.toNatClampNeg) (G 14 (x2 - 2).toNatClampNeg) (G 14 (x2 - 1).toNatClampNeg))) (fun G36 => bnd (x2 + (-1)) (fun x2_37 => j_X12_gives_271 x1 rec G36 x2_37 x4))))))))))
noncomputable def f_X12_gives (G : Mem) (x1 : Int32) : Option (Mem × Int32) := (if (G 0 16) = 0 then (if x1 = 0 then some (G, 0) else (if x1 = 2 then some (G, 1) else (if (G 15 (0 : Int32).toNatClampNeg) ≤ 8 then some (G, 0) else some (G, 1)))) else (if x1 = 0 then bnd ((170 * (G 0 16)) + 0) (fun x4_38 => iter (q_X12_gives_79 x1) fuel (G, 0, x4_38)) else chk (inB (((3 * (G 0 16)) + x1) - 1) 21) (bnd (G 13 (((3 * (G 0 16)) + x1) - 1).toNatClampNeg) (fun x3_4 => bnd ((170 * (G 0 16)) + x3_4) (fun x4_5 => iter (q_X12_gives_79 x1) fuel (G, 0, x4_5))))))
theorem kyX12_gives : Ky yX12_gives cX12_gives 5 (some FieldType.int) 1 := ⟨u6_36, u1_15, by decide, by decide, by decide, by decide +kernel⟩
set_option maxHeartbeats 4000000 in
set_option maxRecDepth 100000 in
theorem c_X12_gives (l : Launch) (D : va_G) (K : List Nat) (sh : Nat → Ent) (ad : Nat → Nat) (cy : Nat → ClassId) (X : va_W) (B : State → Prop) (hcl : Bcl (AS K ad X) B) (hE : ∀ q ∈ shM, q.1 ∈ K ∧ sh q.1 = q.2) (G : Mem) (L : MemL) (O : MemO) (x1 : Int32) {Gz : Mem} {vz : Int32} (hf : f_X12_gives G x1 = some (Gz, vz)) : Met l yX12_gives (wsU yX12_gives cX12_gives 5 (some FieldType.int)) (rmX 2 0 0) (va_Pc [.ref (ad 0), .int x1] (PS D K sh ad cy X B G L O)) (QI (AS K ad X) (PH D K sh ad cy X Gz L O) vz) 0 0 (AS K ad X) := by
  refine s_met (by decide) (Nat.le_of_ble_eq_true rfl) ?_
  intro p e s m args below meth c ls H locs E hK hBs hnm hI hl
  have hl : lv_has ls 5 [(0, .ref (ad 0)), (1, .int x1)] := hl
  have E : Cx p s m args meth c RX12 cX12_gives 5 (some FieldType.int) := E
  obtain ⟨hx, hb, hr, hml, hown, hu, hlocks⟩ := id E
  have B271 : ∀ (k79 : (Mem × Int32 × Int32) → Option (Mem × Int32)) (hk79 : ∀ (G : Mem) (x2 : Int32) (x4 : Int32) (H : Heap) (locs : List Loc) (ls : Array Slot), lv_has ls 5 [(0, .ref (ad 0)), (1, .int x1), (2, .int x2), (4, .int x4)] → IS D K sh ad cy X (AS K ad X) s.heap H locs G L O → k79 (G, x2, x4) = some (Gz, vz) → W p l e (rmX 2 0 0) s m args below meth c H locs 0 0 (MQ below (QI (AS K ad X) (PH D K sh ad cy X Gz L O) vz) args s 0 0 (AS K ad X)) (F0 m 79 ls []))  (G : Mem) (x2 : Int32) (x4 : Int32) (H : Heap) (locs : List Loc) (ls : Array Slot), lv_has ls 5 [(0, .ref (ad 0)), (1, .int x1), (2, .int x2), (4, .int x4)] → IS D K sh ad cy X (AS K ad X) s.heap H locs G L O → j_X12_gives_271 x1 k79 G x2 x4 = some (Gz, vz) → W p l e (rmX 2 0 0) s m args below meth c H locs 0 0 (MQ below (QI (AS K ad X) (PH D K sh ad cy X Gz L O) vz) args s 0 0 (AS K ad X)) (F0 m 271 ls []) := by
    intro k79 hk79 G x2 x4 H locs ls hl hI hf
    rw [j_X12_gives_271] at hf
    obtain ⟨x4_14, ex4_14, hf⟩ := bnd_i hf
    refine lv_iinc (v := x4_14) (lv' := [(4, .int x4_14), (0, .ref (ad 0)), (1, .int x1), (2, .int x2)]) hx hb dX12_gives_271 hl (k := 3) rfl (by rw [ex4_14]; rfl) (by decide) rfl (fun ls hl => ?_)
    refine lv_goto (tgt := 79) hx hb dX12_gives_274 (by decide) ?_
    exact hk79 G x2 x4_14 H locs ls (lv_sub hl [1, 2, 3, 0] rfl) hI hf
  have B79 : ∀   (n : Nat) (G : Mem) (x2 : Int32) (x4 : Int32) (H : Heap) (locs : List Loc) (ls : Array Slot), lv_has ls 5 [(0, .ref (ad 0)), (1, .int x1), (2, .int x2), (4, .int x4)] → IS D K sh ad cy X (AS K ad X) s.heap H locs G L O → iter (q_X12_gives_79 x1) n (G, x2, x4) = some (Gz, vz) → W p l e (rmX 2 0 0) s m args below meth c H locs 0 0 (MQ below (QI (AS K ad X) (PH D K sh ad cy X Gz L O) vz) args s 0 0 (AS K ad X)) (F0 m 79 ls []) := by
    intro n
    induction n with
    | zero => intro G x2 x4 H locs ls hl hI hf; exact iter_0 hf
    | succ n ih =>
      intro G x2 x4 H locs ls hl hI hf
      have hf : q_X12_gives_79 x1 (iter (q_X12_gives_79 x1) n) (G, x2, x4) = some (Gz, vz) := hf
      rw [q_X12_gives_79] at hf
      refine lv_iload hx hb dX12_gives_79 (lv_at hl 3 rfl) ?_
      refine lv_sipush (v := 170) hx hb dX12_gives_81 (by decide) ?_
      refine lv_aload_n hx hb dX12_gives_84 rfl (lv_at hl 0 rfl) ?_
      refine s_get (v := .int (G 0 16)) hx hb hu inU12 hown hK hI (mE hE eM_0) rfl 16 (by decide) u4_204 (fun _ h => h) rfl rfl dX12_gives_85 ?_
      refine lv_imul hx hb dX12_gives_88 ?_
      refine lv_aload_n hx hb dX12_gives_89 rfl (lv_at hl 0 rfl) ?_
      refine s_get (v := .ref (ad 13)) hx hb hu inU12 hown hK hI (mE hE eM_0) rfl 19 (by decide) u4_207 (fun _ h => h) rfl rfl dX12_gives_90 ?_
      refine lv_iconst (v := 3) hx hb dX12_gives_93 (by decide) ?_
      refine lv_aload_n hx hb dX12_gives_94 rfl (lv_at hl 0 rfl) ?_
      refine s_get (v := .int (G 0 16)) hx hb hu inU12 hown hK hI (mE hE eM_0) rfl 16 (by decide) u4_204 (fun _ h => h) rfl rfl dX12_gives_95 ?_
      refine lv_imul hx hb dX12_gives_98 ?_
      refine lv_iload_n hx hb dX12_gives_99 rfl (lv_at hl 1 rfl) ?_
      refine lv_iadd hx hb dX12_gives_100 ?_
      obtain ⟨h6, hf⟩ := chk_i hf
      refine s_ild hx hb hK hI (mE hE eM_13) (inB_i h6) dX12_gives_101 ?_
      refine lv_iadd hx hb dX12_gives_102 ?_
      refine lv_icmp_ge (tgt := 277) hx hb dX12_gives_103 (by decide) (fun c7 => ?_) (fun c7 => ?_)
      · have hf := ite_t c7 hf
        refine lv_aload_n hx hb dX12_gives_277 rfl (lv_at hl 0 rfl) ?_
        refine s_get (v := .ref (ad 14)) hx hb hu inU12 hown hK hI (mE hE eM_0) rfl 27 (by decide) u4_215 (fun _ h => h) rfl rfl dX12_gives_278 ?_
        refine lv_iconst (v := 0) hx hb dX12_gives_281 (by decide) ?_
        refine s_ild hx hb hK hI (mE hE eM_14) (inB_i (by decide)) dX12_gives_282 ?_
        cases hf
        exact s_iret hx hb hr hI.2.2 hI.1 hlocks dX12_gives_283
      · have hf := ite_f c7 hf
        refine lv_aload_n hx hb dX12_gives_106 rfl (lv_at hl 0 rfl) ?_
        refine s_get (v := .ref (ad 11)) hx hb hu inU12 hown hK hI (mE hE eM_0) rfl 17 (by decide) u4_205 (fun _ h => h) rfl rfl dX12_gives_107 ?_
        refine lv_iload hx hb dX12_gives_110 (lv_at hl 3 rfl) ?_
        obtain ⟨h8, hf⟩ := chk_i hf
        refine s_ild hx hb hK hI (mE hE eM_11) (inB_i h8) dX12_gives_112 ?_
        by_cases c9 : (G 11 x4.toNatClampNeg) = 1
        · have hf := ite_t c9 hf
          refine s_tbl (tgt := 144) 1 E dX12_gives_113 c9 (by decide) (by decide) rfl (by decide) ?_
          refine lv_aload_n hx hb dX12_gives_144 rfl (lv_at hl 0 rfl) ?_
          refine s_get (v := .ref (ad 14)) hx hb hu inU12 hown hK hI (mE hE eM_0) rfl 27 (by decide) u4_215 (fun _ h => h) rfl rfl dX12_gives_145 ?_
          refine lv_iload_n hx hb dX12_gives_148 rfl (lv_at hl 2 rfl) ?_
          refine lv_aload_n hx hb dX12_gives_149 rfl (lv_at hl 0 rfl) ?_
          refine s_get (v := .ref (ad 12)) hx hb hu inU12 hown hK hI (mE hE eM_0) rfl 18 (by decide) u4_206 (fun _ h => h) rfl rfl dX12_gives_150 ?_
          refine lv_iload hx hb dX12_gives_153 (lv_at hl 3 rfl) ?_
          obtain ⟨h10, hf⟩ := chk_i hf
          refine s_ild hx hb hK hI (mE hE eM_12) (inB_i h10) dX12_gives_155 ?_
          obtain ⟨h11, hf⟩ := chk_i hf
          obtain ⟨G12, eG12, hf⟩ := bnd_i hf
          refine s_ist hx hb hK hI (mE hE eM_14) (inB_i h11) eG12 dX12_gives_156 (fun H locs hI => ?_)
          obtain ⟨x2_13, ex2_13, hf⟩ := bnd_i hf
          refine lv_iinc (v := x2_13) (lv' := [(2, .int x2_13), (0, .ref (ad 0)), (1, .int x1), (4, .int x4)]) hx hb dX12_gives_157 hl (k := 2) rfl (by rw [ex2_13]; rfl) (by decide) rfl (fun ls hl => ?_)
          refine lv_goto (tgt := 271) hx hb dX12_gives_160 (by decide) ?_
          exact B271 _ ih  G12 x2_13 x4 H locs ls (lv_sub hl [1, 2, 0, 3] rfl) hI hf
        · have hf := ite_f c9 hf
          by_cases c15 : (G 11 x4.toNatClampNeg) = 2
          · have hf := ite_t c15 hf
            refine s_tbl (tgt := 163) 2 E dX12_gives_113 c15 (by decide) (by decide) rfl (by decide) ?_
            refine lv_aload_n hx hb dX12_gives_163 rfl (lv_at hl 0 rfl) ?_
            refine s_get (v := .ref (ad 14)) hx hb hu inU12 hown hK hI (mE hE eM_0) rfl 27 (by decide) u4_215 (fun _ h => h) rfl rfl dX12_gives_164 ?_
            refine lv_iload_n hx hb dX12_gives_167 rfl (lv_at hl 2 rfl) ?_
            refine lv_aload_n hx hb dX12_gives_168 rfl (lv_at hl 0 rfl) ?_
            refine s_get (v := .ref (ad 15)) hx hb hu inU12 hown hK hI (mE hE eM_0) rfl 28 (by decide) u4_216 (fun _ h => h) rfl rfl dX12_gives_169 ?_
            refine lv_aload_n hx hb dX12_gives_172 rfl (lv_at hl 0 rfl) ?_
            refine s_get (v := .ref (ad 12)) hx hb hu inU12 hown hK hI (mE hE eM_0) rfl 18 (by decide) u4_206 (fun _ h => h) rfl rfl dX12_gives_173 ?_
            refine lv_iload hx hb dX12_gives_176 (lv_at hl 3 rfl) ?_
            obtain ⟨h16, hf⟩ := chk_i hf
            refine s_ild hx hb hK hI (mE hE eM_12) (inB_i h16) dX12_gives_178 ?_
            obtain ⟨h17, hf⟩ := chk_i hf
            refine s_ild hx hb hK hI (mE hE eM_15) (inB_i h17) dX12_gives_179 ?_
            obtain ⟨h18, hf⟩ := chk_i hf
            obtain ⟨G19, eG19, hf⟩ := bnd_i hf
            refine s_ist hx hb hK hI (mE hE eM_14) (inB_i h18) eG19 dX12_gives_180 (fun H locs hI => ?_)
            obtain ⟨x2_20, ex2_20, hf⟩ := bnd_i hf
            refine lv_iinc (v := x2_20) (lv' := [(2, .int x2_20), (0, .ref (ad 0)), (1, .int x1), (4, .int x4)]) hx hb dX12_gives_181 hl (k := 2) rfl (by rw [ex2_20]; rfl) (by decide) rfl (fun ls hl => ?_)
            refine lv_goto (tgt := 271) hx hb dX12_gives_184 (by decide) ?_
            exact B271 _ ih  G19 x2_20 x4 H locs ls (lv_sub hl [1, 2, 0, 3] rfl) hI hf
          · have hf := ite_f c15 hf
            by_cases c21 : (G 11 x4.toNatClampNeg) = 3
            · have hf := ite_t c21 hf
              refine s_tbl (tgt := 187) 3 E dX12_gives_113 c21 (by decide) (by decide) rfl (by decide) ?_
              refine lv_aload_n hx hb dX12_gives_187 rfl (lv_at hl 0 rfl) ?_
              refine s_get (v := .ref (ad 14)) hx hb hu inU12 hown hK hI (mE hE eM_0) rfl 27 (by decide) u4_215 (fun _ h => h) rfl rfl dX12_gives_188 ?_
              refine lv_iload_n hx hb dX12_gives_191 rfl (lv_at hl 2 rfl) ?_
              refine lv_iconst (v := 1) hx hb dX12_gives_192 (by decide) ?_
              refine lv_isub hx hb dX12_gives_193 ?_
              refine lv_aload_n hx hb dX12_gives_194 rfl (lv_at hl 0 rfl) ?_
              refine s_get (v := .ref (ad 14)) hx hb hu inU12 hown hK hI (mE hE eM_0) rfl 27 (by decide) u4_215 (fun _ h => h) rfl rfl dX12_gives_195 ?_
              refine lv_iload_n hx hb dX12_gives_198 rfl (lv_at hl 2 rfl) ?_
              refine lv_iconst (v := 1) hx hb dX12_gives_199 (by decide) ?_
              refine lv_isub hx hb dX12_gives_200 ?_
              obtain ⟨h22, hf⟩ := chk_i hf
              refine s_ild hx hb hK hI (mE hE eM_14) (inB_i h22) dX12_gives_201 ?_
              refine lv_if_ne (tgt := 209) hx hb dX12_gives_202 (by decide) (fun c23 => ?_) (fun c23 => ?_)
              · have hf := ite_f c23 hf
                refine lv_iconst (v := 0) hx hb dX12_gives_209 (by decide) ?_
                obtain ⟨h24, hf⟩ := chk_i hf
                obtain ⟨G25, eG25, hf⟩ := bnd_i hf
                refine s_ist hx hb hK hI (mE hE eM_14) (inB_i h24) eG25 dX12_gives_210 (fun H locs hI => ?_)
                refine lv_goto (tgt := 271) hx hb dX12_gives_211 (by decide) ?_
                exact B271 _ ih  G25 x2 x4 H locs ls (lv_sub hl [0, 1, 2, 3] rfl) hI hf
              · have hf := ite_t c23 hf
                refine lv_iconst (v := 1) hx hb dX12_gives_205 (by decide) ?_
                refine lv_goto (tgt := 210) hx hb dX12_gives_206 (by decide) ?_
                obtain ⟨h26, hf⟩ := chk_i hf
                obtain ⟨G27, eG27, hf⟩ := bnd_i hf
                refine s_ist hx hb hK hI (mE hE eM_14) (inB_i h26) eG27 dX12_gives_210 (fun H locs hI => ?_)
                refine lv_goto (tgt := 271) hx hb dX12_gives_211 (by decide) ?_
                exact B271 _ ih  G27 x2 x4 H locs ls (lv_sub hl [0, 1, 2, 3] rfl) hI hf
            · have hf := ite_f c21 hf
              by_cases c28 : (G 11 x4.toNatClampNeg) = 4
              · have hf := ite_t c28 hf
                refine s_tbl (tgt := 214) 4 E dX12_gives_113 c28 (by decide) (by decide) rfl (by decide) ?_
                refine lv_aload_n hx hb dX12_gives_214 rfl (lv_at hl 0 rfl) ?_
                refine s_get (v := .ref (ad 14)) hx hb hu inU12 hown hK hI (mE hE eM_0) rfl 27 (by decide) u4_215 (fun _ h => h) rfl rfl dX12_gives_215 ?_
                refine lv_iload_n hx hb dX12_gives_218 rfl (lv_at hl 2 rfl) ?_
                refine lv_iconst (v := 1) hx hb dX12_gives_219 (by decide) ?_
                refine lv_isub hx hb dX12_gives_220 ?_
                refine lv_aload_n hx hb dX12_gives_221 rfl (lv_at hl 0 rfl) ?_
                refine s_get (v := .ref (ad 14)) hx hb hu inU12 hown hK hI (mE hE eM_0) rfl 27 (by decide) u4_215 (fun _ h => h) rfl rfl dX12_gives_222 ?_
                refine lv_iload_n hx hb dX12_gives_225 rfl (lv_at hl 2 rfl) ?_
                refine lv_iconst (v := 1) hx hb dX12_gives_226 (by decide) ?_
                refine lv_isub hx hb dX12_gives_227 ?_
                obtain ⟨h29, hf⟩ := chk_i hf
                refine s_ild hx hb hK hI (mE hE eM_14) (inB_i h29) dX12_gives_228 ?_
                refine lv_ineg hx hb dX12_gives_229 ?_
                obtain ⟨h30, hf⟩ := chk_i hf
                obtain ⟨G31, eG31, hf⟩ := bnd_i hf
                refine s_ist hx hb hK hI (mE hE eM_14) (inB_i h30) eG31 dX12_gives_230 (fun H locs hI => ?_)
                refine lv_goto (tgt := 271) hx hb dX12_gives_231 (by decide) ?_
                exact B271 _ ih  G31 x2 x4 H locs ls (lv_sub hl [0, 1, 2, 3] rfl) hI hf
              · have hf := ite_f c28 hf
                refine lv_tableOut (tgt := 234) hx hb dX12_gives_113 (by have q0 := lv_neT c9 (show (1 : Int32).toInt = 1 from rfl); have q1 := lv_neT c15 (show (2 : Int32).toInt = 2 from rfl); have q2 := lv_neT c21 (show (3 : Int32).toInt = 3 from rfl); have q3 := lv_neT c28 (show (4 : Int32).toInt = 4 from rfl); omega) (by decide) ?_
                refine lv_aload_n hx hb dX12_gives_234 rfl (lv_at hl 0 rfl) ?_
                refine s_get (v := .ref (ad 14)) hx hb hu inU12 hown hK hI (mE hE eM_0) rfl 27 (by decide) u4_215 (fun _ h => h) rfl rfl dX12_gives_235 ?_
                refine lv_iload_n hx hb dX12_gives_238 rfl (lv_at hl 2 rfl) ?_
                refine lv_iconst (v := 2) hx hb dX12_gives_239 (by decide) ?_
                refine lv_isub hx hb dX12_gives_240 ?_
                refine lv_aload_n hx hb dX12_gives_241 rfl (lv_at hl 0 rfl) ?_
                refine s_get (v := .ref (ad 11)) hx hb hu inU12 hown hK hI (mE hE eM_0) rfl 17 (by decide) u4_205 (fun _ h => h) rfl rfl dX12_gives_242 ?_
                refine lv_iload hx hb dX12_gives_245 (lv_at hl 3 rfl) ?_
                obtain ⟨h32, hf⟩ := chk_i hf
                refine s_ild hx hb hK hI (mE hE eM_11) (inB_i h32) dX12_gives_247 ?_
                refine lv_aload_n hx hb dX12_gives_248 rfl (lv_at hl 0 rfl) ?_
                refine s_get (v := .ref (ad 14)) hx hb hu inU12 hown hK hI (mE hE eM_0) rfl 27 (by decide) u4_215 (fun _ h => h) rfl rfl dX12_gives_249 ?_
                refine lv_iload_n hx hb dX12_gives_252 rfl (lv_at hl 2 rfl) ?_
                refine lv_iconst (v := 2) hx hb dX12_gives_253 (by decide) ?_
                refine lv_isub hx hb dX12_gives_254 ?_
                obtain ⟨h33, hf⟩ := chk_i hf
                refine s_ild hx hb hK hI (mE hE eM_14) (inB_i h33) dX12_gives_255 ?_
                refine lv_aload_n hx hb dX12_gives_256 rfl (lv_at hl 0 rfl) ?_
                refine s_get (v := .ref (ad 14)) hx hb hu inU12 hown hK hI (mE hE eM_0) rfl 27 (by decide) u4_215 (fun _ h => h) rfl rfl dX12_gives_257 ?_
                refine lv_iload_n hx hb dX12_gives_260 rfl (lv_at hl 2 rfl) ?_
                refine lv_iconst (v := 1) hx hb dX12_gives_261 (by decide) ?_
                refine lv_isub hx hb dX12_gives_262 ?_
                obtain ⟨h34, hf⟩ := chk_i hf
                refine s_ild hx hb hK hI (mE hE eM_14) (inB_i h34) dX12_gives_263 ?_
                refine s_cSP (np := 3) (rest := [.int (x2 - 2), .ref (ad 14)]) E (c_X12_twoOf l (G 11 x4.toNatClampNeg) (G 14 (x2 - 2).toNatClampNeg) (G 14 (x2 - 1).toNatClampNeg) rfl) kyX12_twoOf u6_37 u6_38 (by decide) rfl hl.1 rfl (Nat.le_of_ble_eq_true rfl) ⟨Nat.zero_le _, Nat.zero_le _⟩ dX12_gives_264 ?_
                obtain ⟨h35, hf⟩ := chk_i hf
                obtain ⟨G36, eG36, hf⟩ := bnd_i hf
                refine s_ist hx hb hK hI (mE hE eM_14) (inB_i h35) eG36 dX12_gives_267 (fun H locs hI => ?_)
                obtain ⟨x2_37, ex2_37, hf⟩ := bnd_i hf
                refine lv_iinc (v := x2_37) (lv' := [(2, .int x2_37), (0, .ref (ad 0)), (1, .int x1), (4, .int x4)]) hx hb dX12_gives_268 hl (k := 2) rfl (by rw [ex2_37]; rfl) (by decide) rfl (fun ls hl => ?_)
                exact B271 _ ih  G36 x2_37 x4 H locs ls (lv_sub hl [1, 2, 0, 3] rfl) hI hf
  rw [f_X12_gives] at hf
  refine lv_aload_n hx hb dX12_gives_0 rfl (lv_at hl 0 rfl) ?_
  refine s_get (v := .int (G 0 16)) hx hb hu inU12 hown hK hI (mE hE eM_0) rfl 16 (by decide) u4_204 (fun _ h => h) rfl rfl dX12_gives_1 ?_
  refine lv_if_ne (tgt := 41) hx hb dX12_gives_4 (by decide) (fun c1 => ?_) (fun c1 => ?_)
  · have hf := ite_f c1 hf
    refine lv_iconst (v := 0) hx hb dX12_gives_41 (by decide) ?_
    refine lv_istore_n (lv' := [(2, .int 0), (0, .ref (ad 0)), (1, .int x1)]) hx hb dX12_gives_42 rfl hl (by decide) rfl (fun ls hl => ?_)
    refine lv_iload_n hx hb dX12_gives_43 rfl (lv_at hl 2 rfl) ?_
    refine lv_if_ne (tgt := 51) hx hb dX12_gives_44 (by decide) (fun c2 => ?_) (fun c2 => ?_)
    · have hf := ite_f c2 hf
      refine lv_aload_n hx hb dX12_gives_51 rfl (lv_at hl 1 rfl) ?_
      refine s_get (v := .ref (ad 13)) hx hb hu inU12 hown hK hI (mE hE eM_0) rfl 19 (by decide) u4_207 (fun _ h => h) rfl rfl dX12_gives_52 ?_
      refine lv_iconst (v := 3) hx hb dX12_gives_55 (by decide) ?_
      refine lv_aload_n hx hb dX12_gives_56 rfl (lv_at hl 1 rfl) ?_
      refine s_get (v := .int (G 0 16)) hx hb hu inU12 hown hK hI (mE hE eM_0) rfl 16 (by decide) u4_204 (fun _ h => h) rfl rfl dX12_gives_57 ?_
      refine lv_imul hx hb dX12_gives_60 ?_
      refine lv_iload_n hx hb dX12_gives_61 rfl (lv_at hl 2 rfl) ?_
      refine lv_iadd hx hb dX12_gives_62 ?_
      refine lv_iconst (v := 1) hx hb dX12_gives_63 (by decide) ?_
      refine lv_isub hx hb dX12_gives_64 ?_
      obtain ⟨h3, hf⟩ := chk_i hf
      refine s_ild hx hb hK hI (mE hE eM_13) (inB_i h3) dX12_gives_65 ?_
      obtain ⟨x3_4, ex3_4, hf⟩ := bnd_i hf
      refine s_nmI ex3_4 ?_
      refine lv_istore_n (lv' := [(3, .int x3_4), (2, .int 0), (0, .ref (ad 0)), (1, .int x1)]) hx hb dX12_gives_66 rfl hl (by decide) rfl (fun ls hl => ?_)
      refine lv_sipush (v := 170) hx hb dX12_gives_67 (by decide) ?_
      refine lv_aload_n hx hb dX12_gives_70 rfl (lv_at hl 2 rfl) ?_
      refine s_get (v := .int (G 0 16)) hx hb hu inU12 hown hK hI (mE hE eM_0) rfl 16 (by decide) u4_204 (fun _ h => h) rfl rfl dX12_gives_71 ?_
      refine lv_imul hx hb dX12_gives_74 ?_
      refine lv_iload_n hx hb dX12_gives_75 rfl (lv_at hl 0 rfl) ?_
      refine lv_iadd hx hb dX12_gives_76 ?_
      obtain ⟨x4_5, ex4_5, hf⟩ := bnd_i hf
      refine s_nmI ex4_5 ?_
      refine lv_istore (lv' := [(4, .int x4_5), (3, .int x3_4), (2, .int 0), (0, .ref (ad 0)), (1, .int x1)]) hx hb dX12_gives_77 hl (by decide) rfl (fun ls hl => ?_)
      exact B79   fuel G 0 x4_5 H locs ls (lv_sub hl [3, 4, 2, 0] rfl) hI hf
    · have hf := ite_t c2 hf
      refine lv_iconst (v := 0) hx hb dX12_gives_47 (by decide) ?_
      refine lv_goto (tgt := 66) hx hb dX12_gives_48 (by decide) ?_
      refine lv_istore_n (lv' := [(3, .int 0), (2, .int 0), (0, .ref (ad 0)), (1, .int x1)]) hx hb dX12_gives_66 rfl hl (by decide) rfl (fun ls hl => ?_)
      refine lv_sipush (v := 170) hx hb dX12_gives_67 (by decide) ?_
      refine lv_aload_n hx hb dX12_gives_70 rfl (lv_at hl 2 rfl) ?_
      refine s_get (v := .int (G 0 16)) hx hb hu inU12 hown hK hI (mE hE eM_0) rfl 16 (by decide) u4_204 (fun _ h => h) rfl rfl dX12_gives_71 ?_
      refine lv_imul hx hb dX12_gives_74 ?_
      refine lv_iload_n hx hb dX12_gives_75 rfl (lv_at hl 0 rfl) ?_
      refine lv_iadd hx hb dX12_gives_76 ?_
      obtain ⟨x4_38, ex4_38, hf⟩ := bnd_i hf
      refine s_nmI ex4_38 ?_
      refine lv_istore (lv' := [(4, .int x4_38), (3, .int 0), (2, .int 0), (0, .ref (ad 0)), (1, .int x1)]) hx hb dX12_gives_77 hl (by decide) rfl (fun ls hl => ?_)
      exact B79   fuel G 0 x4_38 H locs ls (lv_sub hl [3, 4, 2, 0] rfl) hI hf
  · have hf := ite_t c1 hf
    refine lv_iload_n hx hb dX12_gives_7 rfl (lv_at hl 1 rfl) ?_
    refine lv_if_ne (tgt := 15) hx hb dX12_gives_8 (by decide) (fun c39 => ?_) (fun c39 => ?_)
    · have hf := ite_f c39 hf
      refine lv_iload_n hx hb dX12_gives_15 rfl (lv_at hl 1 rfl) ?_
      refine lv_iconst (v := 2) hx hb dX12_gives_16 (by decide) ?_
      refine lv_icmp_ne (tgt := 24) hx hb dX12_gives_17 (by decide) (fun c40 => ?_) (fun c40 => ?_)
      · have hf := ite_f c40 hf
        refine lv_bipush (v := 8) hx hb dX12_gives_24 (by decide) ?_
        refine lv_aload_n hx hb dX12_gives_26 rfl (lv_at hl 0 rfl) ?_
        refine s_get (v := .ref (ad 15)) hx hb hu inU12 hown hK hI (mE hE eM_0) rfl 28 (by decide) u4_216 (fun _ h => h) rfl rfl dX12_gives_27 ?_
        refine lv_iconst (v := 0) hx hb dX12_gives_30 (by decide) ?_
        refine s_ild hx hb hK hI (mE hE eM_15) (inB_i (by decide)) dX12_gives_31 ?_
        refine lv_icmp_ge (tgt := 39) hx hb dX12_gives_32 (by decide) (fun c41 => ?_) (fun c41 => ?_)
        · have hf := ite_t c41 hf
          refine lv_iconst (v := 0) hx hb dX12_gives_39 (by decide) ?_
          cases hf
          exact s_iret hx hb hr hI.2.2 hI.1 hlocks dX12_gives_40
        · have hf := ite_f c41 hf
          refine lv_iconst (v := 1) hx hb dX12_gives_35 (by decide) ?_
          refine lv_goto (tgt := 40) hx hb dX12_gives_36 (by decide) ?_
          cases hf
          exact s_iret hx hb hr hI.2.2 hI.1 hlocks dX12_gives_40
      · have hf := ite_t c40 hf
        refine lv_iconst (v := 1) hx hb dX12_gives_20 (by decide) ?_
        refine lv_goto (tgt := 40) hx hb dX12_gives_21 (by decide) ?_
        cases hf
        exact s_iret hx hb hr hI.2.2 hI.1 hlocks dX12_gives_40
    · have hf := ite_t c39 hf
      refine lv_iconst (v := 0) hx hb dX12_gives_11 (by decide) ?_
      refine lv_goto (tgt := 40) hx hb dX12_gives_12 (by decide) ?_
      cases hf
      exact s_iret hx hb hr hI.2.2 hI.1 hlocks dX12_gives_40
noncomputable def f_X12_isWay  (x1 : Int32) : Int32 := (f_X12_in x1 0 6)
theorem b_X12_isWay (x1 : Int32) : isB (f_X12_isWay x1) = true := by
  unfold f_X12_isWay
  first | (repeat' split) <;> rfl | (repeat' split) <;> first | rfl | exact (b_X12_in x1 0 6)
theorem kyX12_isWay : Ky yX12_isWay cX12_isWay 2 (some FieldType.boolean) 1 := ⟨u6_0, u1_15, by decide, by decide, by decide, by decide +kernel⟩
set_option maxHeartbeats 4000000 in
set_option maxRecDepth 100000 in
theorem c_X12_isWay (l : Launch) (D : va_G) (K : List Nat) (sh : Nat → Ent) (ad : Nat → Nat) (cy : Nat → ClassId) (X : va_W) (B : State → Prop) (hcl : Bcl (AS K ad X) B) (hE : ∀ q ∈ shM, q.1 ∈ K ∧ sh q.1 = q.2) (G : Mem) (L : MemL) (O : MemO) (x1 : Int32)  {vz : Int32} (hf : f_X12_isWay x1 = vz) : Met l yX12_isWay (wsU yX12_isWay cX12_isWay 2 (some FieldType.boolean)) (rmX 2 0 0) (va_Pc [.ref (ad 0), .int x1] (PS D K sh ad cy X B G L O)) (QI (AS K ad X) (PH D K sh ad cy X G L O) vz) 0 0 (AS K ad X) := by
  refine s_met (by decide) (Nat.le_of_ble_eq_true rfl) ?_
  intro p e s m args below meth c ls H locs E hK hBs hnm hI hl
  have hl : lv_has ls 2 [(0, .ref (ad 0)), (1, .int x1)] := hl
  have E : Cx p s m args meth c RX12 cX12_isWay 2 (some FieldType.boolean) := E
  obtain ⟨hx, hb, hr, hml, hown, hu, hlocks⟩ := id E
  rw [f_X12_isWay] at hf
  refine lv_iload_n hx hb dX12_isWay_0 rfl (lv_at hl 1 rfl) ?_
  refine lv_iconst (v := 0) hx hb dX12_isWay_1 (by decide) ?_
  refine lv_bipush (v := 6) hx hb dX12_isWay_2 (by decide) ?_
  refine s_cSP (np := 3) (rest := []) E (c_X12_in l x1 0 6 rfl) kyX12_in u5_128 u5_129 (by decide) rfl hl.1 rfl (Nat.le_of_ble_eq_true rfl) ⟨Nat.zero_le _, Nat.zero_le _⟩ dX12_isWay_4 ?_
  subst hf
  exact s_zret (isB_i (b_X12_in x1 0 6)) hx hb hr hI.2.2 hI.1 hlocks dX12_isWay_7
noncomputable def f_X12_isMissing (G : Mem) (x1 : Int32) : Option (Int32) := (if (f_X12_in x1 2 5) = 0 then some 0 else chk (inB (x1 - 2) 4) ((if 0 ≤ (G 31 (x1 - 2).toNatClampNeg) then some 0 else some 1)))
theorem kyX12_isMissing : Ky yX12_isMissing cX12_isMissing 2 (some FieldType.boolean) 1 := ⟨u6_8, u1_15, by decide, by decide, by decide, by decide +kernel⟩
set_option maxHeartbeats 4000000 in
set_option maxRecDepth 100000 in
theorem c_X12_isMissing (l : Launch) (D : va_G) (K : List Nat) (sh : Nat → Ent) (ad : Nat → Nat) (cy : Nat → ClassId) (X : va_W) (B : State → Prop) (hcl : Bcl (AS K ad X) B) (hE : ∀ q ∈ shM, q.1 ∈ K ∧ sh q.1 = q.2) (G : Mem) (L : MemL) (O : MemO) (x1 : Int32)  {vz : Int32} (hf : f_X12_isMissing G x1 = some vz) : Met l yX12_isMissing (wsU yX12_isMissing cX12_isMissing 2 (some FieldType.boolean)) (rmX 2 0 0) (va_Pc [.ref (ad 0), .int x1] (PS D K sh ad cy X B G L O)) (QI (AS K ad X) (PH D K sh ad cy X G L O) vz) 0 0 (AS K ad X) := by
  refine s_met (by decide) (Nat.le_of_ble_eq_true rfl) ?_
  intro p e s m args below meth c ls H locs E hK hBs hnm hI hl
  have hl : lv_has ls 2 [(0, .ref (ad 0)), (1, .int x1)] := hl
  have E : Cx p s m args meth c RX12 cX12_isMissing 2 (some FieldType.boolean) := E
  obtain ⟨hx, hb, hr, hml, hown, hu, hlocks⟩ := id E
  rw [f_X12_isMissing] at hf
  refine lv_iload_n hx hb dX12_isMissing_0 rfl (lv_at hl 1 rfl) ?_
  refine lv_iconst (v := 2) hx hb dX12_isMissing_1 (by decide) ?_
  refine lv_iconst (v := 5) hx hb dX12_isMissing_2 (by decide) ?_
  refine s_cSP (np := 3) (rest := []) E (c_X12_in l x1 2 5 rfl) kyX12_in u5_128 u5_129 (by decide) rfl hl.1 rfl (Nat.le_of_ble_eq_true rfl) ⟨Nat.zero_le _, Nat.zero_le _⟩ dX12_isMissing_3 ?_
  refine lv_if_eq (tgt := 24) hx hb dX12_isMissing_6 (by decide) (fun c1 => ?_) (fun c1 => ?_)
  · have hf := ite_t c1 hf
    refine lv_iconst (v := 0) hx hb dX12_isMissing_24 (by decide) ?_
    cases hf
    exact s_zret rfl hx hb hr hI.2.2 hI.1 hlocks dX12_isMissing_25
  · have hf := ite_f c1 hf
    refine lv_aload_n hx hb dX12_isMissing_9 rfl (lv_at hl 0 rfl) ?_
    refine s_get (v := .ref (ad 31)) hx hb hu inU12 hown hK hI (mE hE eM_0) rfl 54 (by decide) u5_2 (fun _ h => h) rfl rfl dX12_isMissing_10 ?_
    refine lv_iload_n hx hb dX12_isMissing_13 rfl (lv_at hl 1 rfl) ?_
    refine lv_iconst (v := 2) hx hb dX12_isMissing_14 (by decide) ?_
    refine lv_isub hx hb dX12_isMissing_15 ?_
    obtain ⟨h2, hf⟩ := chk_i hf
    refine s_ild hx hb hK hI (mE hE eM_31) (inB_i h2) dX12_isMissing_16 ?_
    refine lv_if_ge (tgt := 24) hx hb dX12_isMissing_17 (by decide) (fun c3 => ?_) (fun c3 => ?_)
    · have hf := ite_t c3 hf
      refine lv_iconst (v := 0) hx hb dX12_isMissing_24 (by decide) ?_
      cases hf
      exact s_zret rfl hx hb hr hI.2.2 hI.1 hlocks dX12_isMissing_25
    · have hf := ite_f c3 hf
      refine lv_iconst (v := 1) hx hb dX12_isMissing_20 (by decide) ?_
      refine lv_goto (tgt := 25) hx hb dX12_isMissing_21 (by decide) ?_
      cases hf
      exact s_zret rfl hx hb hr hI.2.2 hI.1 hlocks dX12_isMissing_25
noncomputable def f_X12_loudAt (G : Mem) (x1 : Int32) : Option (Int32) := (if 0 ≤ (G 0 40) then some (G 0 40) else chk (inB x1 48) (some (G 1 x1.toNatClampNeg)))
theorem kyX12_loudAt : Ky yX12_loudAt cX12_loudAt 2 (some FieldType.int) 1 := ⟨u6_28, u1_15, by decide, by decide, by decide, by decide +kernel⟩
set_option maxHeartbeats 4000000 in
set_option maxRecDepth 100000 in
theorem c_X12_loudAt (l : Launch) (D : va_G) (K : List Nat) (sh : Nat → Ent) (ad : Nat → Nat) (cy : Nat → ClassId) (X : va_W) (B : State → Prop) (hcl : Bcl (AS K ad X) B) (hE : ∀ q ∈ shM, q.1 ∈ K ∧ sh q.1 = q.2) (G : Mem) (L : MemL) (O : MemO) (x1 : Int32)  {vz : Int32} (hf : f_X12_loudAt G x1 = some vz) : Met l yX12_loudAt (wsU yX12_loudAt cX12_loudAt 2 (some FieldType.int)) (rmX 1 0 0) (va_Pc [.ref (ad 0), .int x1] (PS D K sh ad cy X B G L O)) (QI (AS K ad X) (PH D K sh ad cy X G L O) vz) 0 0 (AS K ad X) := by
  refine s_met (by decide) (Nat.le_of_ble_eq_true rfl) ?_
  intro p e s m args below meth c ls H locs E hK hBs hnm hI hl
  have hl : lv_has ls 2 [(0, .ref (ad 0)), (1, .int x1)] := hl
  have E : Cx p s m args meth c RX12 cX12_loudAt 2 (some FieldType.int) := E
  obtain ⟨hx, hb, hr, hml, hown, hu, hlocks⟩ := id E
  rw [f_X12_loudAt] at hf
  refine lv_aload_n hx hb dX12_loudAt_0 rfl (lv_at hl 0 rfl) ?_
  refine s_get (v := .int (G 0 40)) hx hb hu inU12 hown hK hI (mE hE eM_0) rfl 40 (by decide) u4_228 (fun _ h => h) rfl rfl dX12_loudAt_1 ?_
  refine lv_if_ge (tgt := 16) hx hb dX12_loudAt_4 (by decide) (fun c1 => ?_) (fun c1 => ?_)
  · have hf := ite_t c1 hf
    refine lv_aload_n hx hb dX12_loudAt_16 rfl (lv_at hl 0 rfl) ?_
    refine s_get (v := .int (G 0 40)) hx hb hu inU12 hown hK hI (mE hE eM_0) rfl 40 (by decide) u4_228 (fun _ h => h) rfl rfl dX12_loudAt_17 ?_
    cases hf
    exact s_iret hx hb hr hI.2.2 hI.1 hlocks dX12_loudAt_20
  · have hf := ite_f c1 hf
    refine lv_aload_n hx hb dX12_loudAt_7 rfl (lv_at hl 0 rfl) ?_
    refine s_get (v := .ref (ad 1)) hx hb hu inU12 hown hK hI (mE hE eM_0) rfl 3 (by decide) u4_191 (fun _ h => h) rfl rfl dX12_loudAt_8 ?_
    refine lv_iload_n hx hb dX12_loudAt_11 rfl (lv_at hl 1 rfl) ?_
    obtain ⟨h2, hf⟩ := chk_i hf
    refine s_ild hx hb hK hI (mE hE eM_1) (inB_i h2) dX12_loudAt_12 ?_
    refine lv_goto (tgt := 20) hx hb dX12_loudAt_13 (by decide) ?_
    cases hf
    exact s_iret hx hb hr hI.2.2 hI.1 hlocks dX12_loudAt_20
noncomputable def q_X12_begin_2   (rec : (Mem × Int32) → Option (Mem)) : (Mem × Int32) → Option (Mem) := fun (G, x1) => (if (G 0 7) ≤ x1 then bnd (up2 G 0 36 (-1)) (fun G2 => bnd (up2 G2 0 38 (-1)) (fun G3 => bnd (up2 G3 0 40 (-1)) (fun G4 => some G4))) else chk (inB x1 10) (bnd (up2 G 18 x1.toNatClampNeg 0) (fun G6 => chk (inB x1 10) (bnd (up2 G6 19 x1.toNatClampNeg 0) (fun G8 => chk (inB x1 10) (bnd (up2 G8 20 x1.toNatClampNeg 0) (fun G10 => bnd (x1 + 1) (fun x1_11 => rec (G10, x1_11)))))))))
noncomputable def f_X12_begin (G : Mem)  : Option (Mem) := iter (q_X12_begin_2) fuel (G, 0)
theorem kyX12_begin : Ky yX12_begin cX12_begin 2 none 0 := ⟨u6_12, u1_15, by decide, by decide, by decide, by decide +kernel⟩
set_option maxHeartbeats 4000000 in
set_option maxRecDepth 100000 in
theorem c_X12_begin (l : Launch) (D : va_G) (K : List Nat) (sh : Nat → Ent) (ad : Nat → Nat) (cy : Nat → ClassId) (X : va_W) (B : State → Prop) (hcl : Bcl (AS K ad X) B) (hE : ∀ q ∈ shM, q.1 ∈ K ∧ sh q.1 = q.2) (G : Mem) (L : MemL) (O : MemO)  {Gz : Mem} (hf : f_X12_begin G = some Gz) : Met l yX12_begin (wsU yX12_begin cX12_begin 2 none) (rmX 1 0 0) (va_Pc [.ref (ad 0)] (PS D K sh ad cy X B G L O)) (QV (AS K ad X) (PH D K sh ad cy X Gz L O)) 0 0 (AS K ad X) := by
  refine s_met (by decide) (Nat.le_of_ble_eq_true rfl) ?_
  intro p e s m args below meth c ls H locs E hK hBs hnm hI hl
  have hl : lv_has ls 2 [(0, .ref (ad 0))] := hl
  have E : Cx p s m args meth c RX12 cX12_begin 2 none := E
  obtain ⟨hx, hb, hr, hml, hown, hu, hlocks⟩ := id E
  have B2 : ∀   (n : Nat) (G : Mem) (x1 : Int32) (H : Heap) (locs : List Loc) (ls : Array Slot), lv_has ls 2 [(0, .ref (ad 0)), (1, .int x1)] → IS D K sh ad cy X (AS K ad X) s.heap H locs G L O → iter (q_X12_begin_2) n (G, x1) = some Gz → W p l e (rmX 1 0 0) s m args below meth c H locs 0 0 (MQ below (QV (AS K ad X) (PH D K sh ad cy X Gz L O)) args s 0 0 (AS K ad X)) (F0 m 2 ls []) := by
    intro n
    induction n with
    | zero => intro G x1 H locs ls hl hI hf; exact iter_0 hf
    | succ n ih =>
      intro G x1 H locs ls hl hI hf
      have hf : q_X12_begin_2 (iter (q_X12_begin_2) n) (G, x1) = some Gz := hf
      rw [q_X12_begin_2] at hf
      refine lv_iload_n hx hb dX12_begin_2 rfl (lv_at hl 1 rfl) ?_
      refine lv_aload_n hx hb dX12_begin_3 rfl (lv_at hl 0 rfl) ?_
      refine s_get (v := .int (G 0 7)) hx hb hu inU12 hown hK hI (mE hE eM_0) rfl 7 (by decide) u4_195 (fun _ h => h) rfl rfl dX12_begin_4 ?_
      refine lv_icmp_ge (tgt := 37) hx hb dX12_begin_7 (by decide) (fun c1 => ?_) (fun c1 => ?_)
      · have hf := ite_t c1 hf
        refine lv_aload_n hx hb dX12_begin_37 rfl (lv_at hl 0 rfl) ?_
        refine lv_iconst (v := (-1)) hx hb dX12_begin_38 (by decide) ?_
        obtain ⟨G2, eG2, hf⟩ := bnd_i hf
        refine s_put (ty := .int) hx hb hu inU12 tyX12_ok nmX12 hown hK hI (mE hE eM_0) rfl 36 (by decide) u4_224 (fun _ h => h) rfl rfl (tyX12_ok 36 (by decide)) rfl rfl eG2 dX12_begin_39 (fun H locs hI => ?_)
        refine lv_aload_n hx hb dX12_begin_42 rfl (lv_at hl 0 rfl) ?_
        refine lv_iconst (v := (-1)) hx hb dX12_begin_43 (by decide) ?_
        obtain ⟨G3, eG3, hf⟩ := bnd_i hf
        refine s_put (ty := .int) hx hb hu inU12 tyX12_ok nmX12 hown hK hI (mE hE eM_0) rfl 38 (by decide) u4_226 (fun _ h => h) rfl rfl (tyX12_ok 38 (by decide)) rfl rfl eG3 dX12_begin_44 (fun H locs hI => ?_)
        refine lv_aload_n hx hb dX12_begin_47 rfl (lv_at hl 0 rfl) ?_
        refine lv_iconst (v := (-1)) hx hb dX12_begin_48 (by decide) ?_
        obtain ⟨G4, eG4, hf⟩ := bnd_i hf
        refine s_put (ty := .int) hx hb hu inU12 tyX12_ok nmX12 hown hK hI (mE hE eM_0) rfl 40 (by decide) u4_228 (fun _ h => h) rfl rfl (tyX12_ok 40 (by decide)) rfl rfl eG4 dX12_begin_49 (fun H locs hI => ?_)
        cases hf
        exact s_vret hx hb hr hI.2.2 hI.1 hlocks dX12_begin_52
      · have hf := ite_f c1 hf
        refine lv_aload_n hx hb dX12_begin_10 rfl (lv_at hl 0 rfl) ?_
        refine s_get (v := .ref (ad 18)) hx hb hu inU12 hown hK hI (mE hE eM_0) rfl 31 (by decide) u4_219 (fun _ h => h) rfl rfl dX12_begin_11 ?_
        refine lv_iload_n hx hb dX12_begin_14 rfl (lv_at hl 1 rfl) ?_
        refine lv_iconst (v := 0) hx hb dX12_begin_15 (by decide) ?_
        obtain ⟨h5, hf⟩ := chk_i hf
        obtain ⟨G6, eG6, hf⟩ := bnd_i hf
        refine s_ist hx hb hK hI (mE hE eM_18) (inB_i h5) eG6 dX12_begin_16 (fun H locs hI => ?_)
        refine lv_aload_n hx hb dX12_begin_17 rfl (lv_at hl 0 rfl) ?_
        refine s_get (v := .ref (ad 19)) hx hb hu inU12 hown hK hI (mE hE eM_0) rfl 32 (by decide) u4_220 (fun _ h => h) rfl rfl dX12_begin_18 ?_
        refine lv_iload_n hx hb dX12_begin_21 rfl (lv_at hl 1 rfl) ?_
        refine lv_iconst (v := 0) hx hb dX12_begin_22 (by decide) ?_
        obtain ⟨h7, hf⟩ := chk_i hf
        obtain ⟨G8, eG8, hf⟩ := bnd_i hf
        refine s_ist hx hb hK hI (mE hE eM_19) (inB_i h7) eG8 dX12_begin_23 (fun H locs hI => ?_)
        refine lv_aload_n hx hb dX12_begin_24 rfl (lv_at hl 0 rfl) ?_
        refine s_get (v := .ref (ad 20)) hx hb hu inU12 hown hK hI (mE hE eM_0) rfl 33 (by decide) u4_221 (fun _ h => h) rfl rfl dX12_begin_25 ?_
        refine lv_iload_n hx hb dX12_begin_28 rfl (lv_at hl 1 rfl) ?_
        refine lv_iconst (v := 0) hx hb dX12_begin_29 (by decide) ?_
        obtain ⟨h9, hf⟩ := chk_i hf
        obtain ⟨G10, eG10, hf⟩ := bnd_i hf
        refine s_ist hx hb hK hI (mE hE eM_20) (inB_i h9) eG10 dX12_begin_30 (fun H locs hI => ?_)
        obtain ⟨x1_11, ex1_11, hf⟩ := bnd_i hf
        refine lv_iinc (v := x1_11) (lv' := [(1, .int x1_11), (0, .ref (ad 0))]) hx hb dX12_begin_31 hl (k := 1) rfl (by rw [ex1_11]; rfl) (by decide) rfl (fun ls hl => ?_)
        refine lv_goto (tgt := 2) hx hb dX12_begin_34 (by decide) ?_
        exact ih G10 x1_11 H locs ls (lv_sub hl [1, 0] rfl) hI hf
  rw [f_X12_begin] at hf
  refine lv_iconst (v := 0) hx hb dX12_begin_0 (by decide) ?_
  refine lv_istore_n (lv' := [(1, .int 0), (0, .ref (ad 0))]) hx hb dX12_begin_1 rfl hl (by decide) rfl (fun ls hl => ?_)
  exact B2   fuel G 0 H locs ls (lv_sub hl [1, 0] rfl) hI hf
noncomputable def q_X12_isPlanned_3 (G : Mem) (x1 : Int32) (x2 : Int32) (x3 : Int32)  (rec : Int32 → Option (Int32)) : Int32 → Option (Int32) := fun x4 => chk (inB x1 4) ((if (G 32 x1.toNatClampNeg) ≤ (x4 + 1) then (if (G 0 38) = x2 then (if (G 0 39) = x3 then some 1 else some 0) else some 0) else chk (inB ((40 * x1) + x4) 160) ((if (G 33 ((40 * x1) + x4).toNatClampNeg) = x2 then chk (inB (((40 * x1) + x4) + 1) 160) ((if (G 33 (((40 * x1) + x4) + 1).toNatClampNeg) = x3 then some 1 else bnd (x4 + 2) (fun x4_10 => rec x4_10))) else bnd (x4 + 2) (fun x4_7 => rec x4_7)))))
noncomputable def f_X12_isPlanned (G : Mem) (x1 : Int32) (x2 : Int32) (x3 : Int32) : Option (Int32) := iter (q_X12_isPlanned_3 G x1 x2 x3) fuel 0
theorem kyX12_isPlanned : Ky yX12_isPlanned cX12_isPlanned 5 (some FieldType.boolean) 3 := ⟨u6_24, u1_15, by decide, by decide, by decide, by decide +kernel⟩
set_option maxHeartbeats 4000000 in
set_option maxRecDepth 100000 in
theorem c_X12_isPlanned (l : Launch) (D : va_G) (K : List Nat) (sh : Nat → Ent) (ad : Nat → Nat) (cy : Nat → ClassId) (X : va_W) (B : State → Prop) (hcl : Bcl (AS K ad X) B) (hE : ∀ q ∈ shM, q.1 ∈ K ∧ sh q.1 = q.2) (G : Mem) (L : MemL) (O : MemO) (x1 : Int32) (x2 : Int32) (x3 : Int32)  {vz : Int32} (hf : f_X12_isPlanned G x1 x2 x3 = some vz) : Met l yX12_isPlanned (wsU yX12_isPlanned cX12_isPlanned 5 (some FieldType.boolean)) (rmX 1 0 0) (va_Pc [.ref (ad 0), .int x1, .int x2, .int x3] (PS D K sh ad cy X B G L O)) (QI (AS K ad X) (PH D K sh ad cy X G L O) vz) 0 0 (AS K ad X) := by
  refine s_met (by decide) (Nat.le_of_ble_eq_true rfl) ?_
  intro p e s m args below meth c ls H locs E hK hBs hnm hI hl
  have hl : lv_has ls 5 [(0, .ref (ad 0)), (1, .int x1), (2, .int x2), (3, .int x3)] := hl
  have E : Cx p s m args meth c RX12 cX12_isPlanned 5 (some FieldType.boolean) := E
  obtain ⟨hx, hb, hr, hml, hown, hu, hlocks⟩ := id E
  have B3 : ∀   (n : Nat) (x4 : Int32) (H : Heap) (locs : List Loc) (ls : Array Slot), lv_has ls 5 [(0, .ref (ad 0)), (1, .int x1), (2, .int x2), (3, .int x3), (4, .int x4)] → IS D K sh ad cy X (AS K ad X) s.heap H locs G L O → iter (q_X12_isPlanned_3 G x1 x2 x3) n x4 = some vz → W p l e (rmX 1 0 0) s m args below meth c H locs 0 0 (MQ below (QI (AS K ad X) (PH D K sh ad cy X G L O) vz) args s 0 0 (AS K ad X)) (F0 m 3 ls []) := by
    intro n
    induction n with
    | zero => intro x4 H locs ls hl hI hf; exact iter_0 hf
    | succ n ih =>
      intro x4 H locs ls hl hI hf
      have hf : q_X12_isPlanned_3 G x1 x2 x3 (iter (q_X12_isPlanned_3 G x1 x2 x3) n) x4 = some vz := hf
      rw [q_X12_isPlanned_3] at hf
      refine lv_iload hx hb dX12_isPlanned_3 (lv_at hl 4 rfl) ?_
      refine lv_iconst (v := 1) hx hb dX12_isPlanned_5 (by decide) ?_
      refine lv_iadd hx hb dX12_isPlanned_6 ?_
      refine lv_aload_n hx hb dX12_isPlanned_7 rfl (lv_at hl 0 rfl) ?_
      refine s_get (v := .ref (ad 32)) hx hb hu inU12 hown hK hI (mE hE eM_0) rfl 55 (by decide) u5_3 (fun _ h => h) rfl rfl dX12_isPlanned_8 ?_
      refine lv_iload_n hx hb dX12_isPlanned_11 rfl (lv_at hl 1 rfl) ?_
      obtain ⟨h1, hf⟩ := chk_i hf
      refine s_ild hx hb hK hI (mE hE eM_32) (inB_i h1) dX12_isPlanned_12 ?_
      refine lv_icmp_ge (tgt := 58) hx hb dX12_isPlanned_13 (by decide) (fun c2 => ?_) (fun c2 => ?_)
      · have hf := ite_t c2 hf
        refine lv_aload_n hx hb dX12_isPlanned_58 rfl (lv_at hl 0 rfl) ?_
        refine s_get (v := .int (G 0 38)) hx hb hu inU12 hown hK hI (mE hE eM_0) rfl 38 (by decide) u4_226 (fun _ h => h) rfl rfl dX12_isPlanned_59 ?_
        refine lv_iload_n hx hb dX12_isPlanned_62 rfl (lv_at hl 2 rfl) ?_
        refine lv_icmp_ne (tgt := 78) hx hb dX12_isPlanned_63 (by decide) (fun c3 => ?_) (fun c3 => ?_)
        · have hf := ite_f c3 hf
          refine lv_iconst (v := 0) hx hb dX12_isPlanned_78 (by decide) ?_
          cases hf
          exact s_zret rfl hx hb hr hI.2.2 hI.1 hlocks dX12_isPlanned_79
        · have hf := ite_t c3 hf
          refine lv_aload_n hx hb dX12_isPlanned_66 rfl (lv_at hl 0 rfl) ?_
          refine s_get (v := .int (G 0 39)) hx hb hu inU12 hown hK hI (mE hE eM_0) rfl 39 (by decide) u4_227 (fun _ h => h) rfl rfl dX12_isPlanned_67 ?_
          refine lv_iload_n hx hb dX12_isPlanned_70 rfl (lv_at hl 3 rfl) ?_
          refine lv_icmp_ne (tgt := 78) hx hb dX12_isPlanned_71 (by decide) (fun c4 => ?_) (fun c4 => ?_)
          · have hf := ite_f c4 hf
            refine lv_iconst (v := 0) hx hb dX12_isPlanned_78 (by decide) ?_
            cases hf
            exact s_zret rfl hx hb hr hI.2.2 hI.1 hlocks dX12_isPlanned_79
          · have hf := ite_t c4 hf
            refine lv_iconst (v := 1) hx hb dX12_isPlanned_74 (by decide) ?_
            refine lv_goto (tgt := 79) hx hb dX12_isPlanned_75 (by decide) ?_
            cases hf
            exact s_zret rfl hx hb hr hI.2.2 hI.1 hlocks dX12_isPlanned_79
      · have hf := ite_f c2 hf
        refine lv_aload_n hx hb dX12_isPlanned_16 rfl (lv_at hl 0 rfl) ?_
        refine s_get (v := .ref (ad 33)) hx hb hu inU12 hown hK hI (mE hE eM_0) rfl 56 (by decide) u5_4 (fun _ h => h) rfl rfl dX12_isPlanned_17 ?_
        refine lv_bipush (v := 40) hx hb dX12_isPlanned_20 (by decide) ?_
        refine lv_iload_n hx hb dX12_isPlanned_22 rfl (lv_at hl 1 rfl) ?_
        refine lv_imul hx hb dX12_isPlanned_23 ?_
        refine lv_iload hx hb dX12_isPlanned_24 (lv_at hl 4 rfl) ?_
        refine lv_iadd hx hb dX12_isPlanned_26 ?_
        obtain ⟨h5, hf⟩ := chk_i hf
        refine s_ild hx hb hK hI (mE hE eM_33) (inB_i h5) dX12_isPlanned_27 ?_
        refine lv_iload_n hx hb dX12_isPlanned_28 rfl (lv_at hl 2 rfl) ?_
        refine lv_icmp_ne (tgt := 52) hx hb dX12_isPlanned_29 (by decide) (fun c6 => ?_) (fun c6 => ?_)
        · have hf := ite_f c6 hf
          obtain ⟨x4_7, ex4_7, hf⟩ := bnd_i hf
          refine lv_iinc (v := x4_7) (lv' := [(4, .int x4_7), (0, .ref (ad 0)), (1, .int x1), (2, .int x2), (3, .int x3)]) hx hb dX12_isPlanned_52 hl (k := 4) rfl (by rw [ex4_7]; rfl) (by decide) rfl (fun ls hl => ?_)
          refine lv_goto (tgt := 3) hx hb dX12_isPlanned_55 (by decide) ?_
          exact ih x4_7 H locs ls (lv_sub hl [1, 2, 3, 4, 0] rfl) hI hf
        · have hf := ite_t c6 hf
          refine lv_aload_n hx hb dX12_isPlanned_32 rfl (lv_at hl 0 rfl) ?_
          refine s_get (v := .ref (ad 33)) hx hb hu inU12 hown hK hI (mE hE eM_0) rfl 56 (by decide) u5_4 (fun _ h => h) rfl rfl dX12_isPlanned_33 ?_
          refine lv_bipush (v := 40) hx hb dX12_isPlanned_36 (by decide) ?_
          refine lv_iload_n hx hb dX12_isPlanned_38 rfl (lv_at hl 1 rfl) ?_
          refine lv_imul hx hb dX12_isPlanned_39 ?_
          refine lv_iload hx hb dX12_isPlanned_40 (lv_at hl 4 rfl) ?_
          refine lv_iadd hx hb dX12_isPlanned_42 ?_
          refine lv_iconst (v := 1) hx hb dX12_isPlanned_43 (by decide) ?_
          refine lv_iadd hx hb dX12_isPlanned_44 ?_
          obtain ⟨h8, hf⟩ := chk_i hf
          refine s_ild hx hb hK hI (mE hE eM_33) (inB_i h8) dX12_isPlanned_45 ?_
          refine lv_iload_n hx hb dX12_isPlanned_46 rfl (lv_at hl 3 rfl) ?_
          refine lv_icmp_ne (tgt := 52) hx hb dX12_isPlanned_47 (by decide) (fun c9 => ?_) (fun c9 => ?_)
          · have hf := ite_f c9 hf
            obtain ⟨x4_10, ex4_10, hf⟩ := bnd_i hf
            refine lv_iinc (v := x4_10) (lv' := [(4, .int x4_10), (0, .ref (ad 0)), (1, .int x1), (2, .int x2), (3, .int x3)]) hx hb dX12_isPlanned_52 hl (k := 4) rfl (by rw [ex4_10]; rfl) (by decide) rfl (fun ls hl => ?_)
            refine lv_goto (tgt := 3) hx hb dX12_isPlanned_55 (by decide) ?_
            exact ih x4_10 H locs ls (lv_sub hl [1, 2, 3, 4, 0] rfl) hI hf
          · have hf := ite_t c9 hf
            refine lv_iconst (v := 1) hx hb dX12_isPlanned_50 (by decide) ?_
            cases hf
            exact s_zret rfl hx hb hr hI.2.2 hI.1 hlocks dX12_isPlanned_51
  rw [f_X12_isPlanned] at hf
  refine lv_iconst (v := 0) hx hb dX12_isPlanned_0 (by decide) ?_
  refine lv_istore (lv' := [(4, .int 0), (0, .ref (ad 0)), (1, .int x1), (2, .int x2), (3, .int x3)]) hx hb dX12_isPlanned_1 hl (by decide) rfl (fun ls hl => ?_)
  exact B3   fuel 0 H locs ls (lv_sub hl [1, 2, 3, 4, 0] rfl) hI hf
noncomputable def j_X12_findFacts_149 (x1 : Int32) (x2 : Int32) (k58 : (Mem × Int32) → Option (Mem)) (G : Mem) (x3 : Int32) : Option (Mem) := bnd (x3 + 1) (fun x3_18 => k58 (G, x3_18))
noncomputable def j_X12_findFacts_126 (x1 : Int32) (x2 : Int32) (k58 : (Mem × Int32) → Option (Mem)) (G : Mem) (x3 : Int32) : Option (Mem) := (if x2 ≤ 0 then j_X12_findFacts_149 x1 x2 k58 G x3 else chk (inB x3 10) ((if (G 22 x3.toNatClampNeg) = 0 then bnd (up2 G 15 (4 : Int32).toNatClampNeg ((G 15 (4 : Int32).toNatClampNeg) + 1)) (fun G21 => j_X12_findFacts_149 x1 x2 k58 G21 x3) else j_X12_findFacts_149 x1 x2 k58 G x3)))
noncomputable def j_X12_findFacts_112 (x1 : Int32) (x2 : Int32) (k58 : (Mem × Int32) → Option (Mem)) (G : Mem) (x3 : Int32) : Option (Mem) := (if x3 = (x1 - 1) then j_X12_findFacts_126 x1 x2 k58 G x3 else (if x3 = (x1 + 1) then j_X12_findFacts_126 x1 x2 k58 G x3 else j_X12_findFacts_149 x1 x2 k58 G x3))
noncomputable def j_X12_findFacts_102 (x1 : Int32) (x2 : Int32) (k58 : (Mem × Int32) → Option (Mem)) (G : Mem) (x3 : Int32) : Option (Mem) := bnd (up2 G 15 (3 : Int32).toNatClampNeg ((G 15 (3 : Int32).toNatClampNeg) + 1)) (fun G24 => j_X12_findFacts_112 x1 x2 k58 G24 x3)
noncomputable def q_X12_findFacts_58 (x1 : Int32) (x2 : Int32)  (rec : (Mem × Int32) → Option (Mem)) : (Mem × Int32) → Option (Mem) := fun (G, x3) => (if (G 0 7) ≤ x3 then some G else (if x3 = x1 then j_X12_findFacts_149 x1 x2 rec G x3 else chk (inB x3 10) (chk (inB x1 10) ((if (G 6 x3.toNatClampNeg) = (G 6 x1.toNatClampNeg) then (if x2 = 0 then j_X12_findFacts_102 x1 x2 rec G x3 else chk (inB x3 10) ((if (G 22 x3.toNatClampNeg) = 0 then j_X12_findFacts_112 x1 x2 rec G x3 else j_X12_findFacts_102 x1 x2 rec G x3))) else j_X12_findFacts_112 x1 x2 rec G x3)))))
noncomputable def f_X12_findFacts (G : Mem) (x1 : Int32) (x2 : Int32) : Option (Mem) := chk (inB x1 10) (bnd (up2 G 15 (0 : Int32).toNatClampNeg (G 18 x1.toNatClampNeg)) (fun G2 => bndO (f_X12_loudAt G2 x2) (fun v3 => bnd (up2 G2 15 (1 : Int32).toNatClampNeg v3) (fun G5 => bnd (up2 G5 15 (2 : Int32).toNatClampNeg x2) (fun G6 => bnd (up2 G6 15 (3 : Int32).toNatClampNeg 0) (fun G7 => bnd (up2 G7 15 (4 : Int32).toNatClampNeg 0) (fun G8 => chk (inB x1 10) (bnd (up2 G8 15 (5 : Int32).toNatClampNeg (G8 20 x1.toNatClampNeg)) (fun G10 => iter (q_X12_findFacts_58 x1 x2) fuel (G10, 0))))))))))
theorem kyX12_findFacts : Ky yX12_findFacts cX12_findFacts 4 none 2 := ⟨u6_32, u1_15, by decide, by decide, by decide, by decide +kernel⟩
set_option maxHeartbeats 4000000 in
set_option maxRecDepth 100000 in
theorem c_X12_findFacts (l : Launch) (D : va_G) (K : List Nat) (sh : Nat → Ent) (ad : Nat → Nat) (cy : Nat → ClassId) (X : va_W) (B : State → Prop) (hcl : Bcl (AS K ad X) B) (hE : ∀ q ∈ shM, q.1 ∈ K ∧ sh q.1 = q.2) (G : Mem) (L : MemL) (O : MemO) (x1 : Int32) (x2 : Int32) {Gz : Mem} (hf : f_X12_findFacts G x1 x2 = some Gz) : Met l yX12_findFacts (wsU yX12_findFacts cX12_findFacts 4 none) (rmX 2 0 0) (va_Pc [.ref (ad 0), .int x1, .int x2] (PS D K sh ad cy X B G L O)) (QV (AS K ad X) (PH D K sh ad cy X Gz L O)) 0 0 (AS K ad X) := by
  refine s_met (by decide) (Nat.le_of_ble_eq_true rfl) ?_
  intro p e s m args below meth c ls H locs E hK hBs hnm hI hl
  have hl : lv_has ls 4 [(0, .ref (ad 0)), (1, .int x1), (2, .int x2)] := hl
  have E : Cx p s m args meth c RX12 cX12_findFacts 4 none := E
  obtain ⟨hx, hb, hr, hml, hown, hu, hlocks⟩ := id E
  have B149 : ∀ (k58 : (Mem × Int32) → Option (Mem)) (hk58 : ∀ (G : Mem) (x3 : Int32) (H : Heap) (locs : List Loc) (ls : Array Slot), lv_has ls 4 [(0, .ref (ad 0)), (1, .int x1), (2, .int x2), (3, .int x3)] → IS D K sh ad cy X (AS K ad X) s.heap H locs G L O → k58 (G, x3) = some Gz → W p l e (rmX 2 0 0) s m args below meth c H locs 0 0 (MQ below (QV (AS K ad X) (PH D K sh ad cy X Gz L O)) args s 0 0 (AS K ad X)) (F0 m 58 ls []))  (G : Mem) (x3 : Int32) (H : Heap) (locs : List Loc) (ls : Array Slot), lv_has ls 4 [(0, .ref (ad 0)), (1, .int x1), (2, .int x2), (3, .int x3)] → IS D K sh ad cy X (AS K ad X) s.heap H locs G L O → j_X12_findFacts_149 x1 x2 k58 G x3 = some Gz → W p l e (rmX 2 0 0) s m args below meth c H locs 0 0 (MQ below (QV (AS K ad X) (PH D K sh ad cy X Gz L O)) args s 0 0 (AS K ad X)) (F0 m 149 ls []) := by
    intro k58 hk58 G x3 H locs ls hl hI hf
    rw [j_X12_findFacts_149] at hf
    obtain ⟨x3_18, ex3_18, hf⟩ := bnd_i hf
    refine lv_iinc (v := x3_18) (lv' := [(3, .int x3_18), (0, .ref (ad 0)), (1, .int x1), (2, .int x2)]) hx hb dX12_findFacts_149 hl (k := 3) rfl (by rw [ex3_18]; rfl) (by decide) rfl (fun ls hl => ?_)
    refine lv_goto (tgt := 58) hx hb dX12_findFacts_152 (by decide) ?_
    exact hk58 G x3_18 H locs ls (lv_sub hl [1, 2, 3, 0] rfl) hI hf
  have B126 : ∀ (k58 : (Mem × Int32) → Option (Mem)) (hk58 : ∀ (G : Mem) (x3 : Int32) (H : Heap) (locs : List Loc) (ls : Array Slot), lv_has ls 4 [(0, .ref (ad 0)), (1, .int x1), (2, .int x2), (3, .int x3)] → IS D K sh ad cy X (AS K ad X) s.heap H locs G L O → k58 (G, x3) = some Gz → W p l e (rmX 2 0 0) s m args below meth c H locs 0 0 (MQ below (QV (AS K ad X) (PH D K sh ad cy X Gz L O)) args s 0 0 (AS K ad X)) (F0 m 58 ls []))  (G : Mem) (x3 : Int32) (H : Heap) (locs : List Loc) (ls : Array Slot), lv_has ls 4 [(0, .ref (ad 0)), (1, .int x1), (2, .int x2), (3, .int x3)] → IS D K sh ad cy X (AS K ad X) s.heap H locs G L O → j_X12_findFacts_126 x1 x2 k58 G x3 = some Gz → W p l e (rmX 2 0 0) s m args below meth c H locs 0 0 (MQ below (QV (AS K ad X) (PH D K sh ad cy X Gz L O)) args s 0 0 (AS K ad X)) (F0 m 126 ls []) := by
    intro k58 hk58 G x3 H locs ls hl hI hf
    rw [j_X12_findFacts_126] at hf
    refine lv_iload_n hx hb dX12_findFacts_126 rfl (lv_at hl 2 rfl) ?_
    refine lv_if_le (tgt := 149) hx hb dX12_findFacts_127 (by decide) (fun c17 => ?_) (fun c17 => ?_)
    · have hf := ite_t c17 hf
      exact B149 _ hk58  G x3 H locs ls (lv_sub hl [0, 1, 2, 3] rfl) hI hf
    · have hf := ite_f c17 hf
      refine lv_aload_n hx hb dX12_findFacts_130 rfl (lv_at hl 0 rfl) ?_
      refine s_get (v := .ref (ad 22)) hx hb hu inU12 hown hK hI (mE hE eM_0) rfl 35 (by decide) u4_223 (fun _ h => h) rfl rfl dX12_findFacts_131 ?_
      refine lv_iload_n hx hb dX12_findFacts_134 rfl (lv_at hl 3 rfl) ?_
      obtain ⟨h19, hf⟩ := chk_i hf
      refine s_zld hx hb hK hI (mE hE eM_22) (inB_i h19) dX12_findFacts_135 ?_
      refine lv_if_ne (tgt := 149) hx hb dX12_findFacts_136 (by decide) (fun c20 => ?_) (fun c20 => ?_)
      · have hf := ite_f c20 hf
        exact B149 _ hk58  G x3 H locs ls (lv_sub hl [0, 1, 2, 3] rfl) hI hf
      · have hf := ite_t c20 hf
        refine lv_aload_n hx hb dX12_findFacts_139 rfl (lv_at hl 0 rfl) ?_
        refine s_get (v := .ref (ad 15)) hx hb hu inU12 hown hK hI (mE hE eM_0) rfl 28 (by decide) u4_216 (fun _ h => h) rfl rfl dX12_findFacts_140 ?_
        refine lv_iconst (v := 4) hx hb dX12_findFacts_143 (by decide) ?_
        refine lv_dup2_11 hx hb dX12_findFacts_144 rfl rfl ?_
        refine s_ild hx hb hK hI (mE hE eM_15) (inB_i (by decide)) dX12_findFacts_145 ?_
        refine lv_iconst (v := 1) hx hb dX12_findFacts_146 (by decide) ?_
        refine lv_iadd hx hb dX12_findFacts_147 ?_
        obtain ⟨G21, eG21, hf⟩ := bnd_i hf
        refine s_ist hx hb hK hI (mE hE eM_15) (inB_i (by decide)) eG21 dX12_findFacts_148 (fun H locs hI => ?_)
        exact B149 _ hk58  G21 x3 H locs ls (lv_sub hl [0, 1, 2, 3] rfl) hI hf
  have B112 : ∀ (k58 : (Mem × Int32) → Option (Mem)) (hk58 : ∀ (G : Mem) (x3 : Int32) (H : Heap) (locs : List Loc) (ls : Array Slot), lv_has ls 4 [(0, .ref (ad 0)), (1, .int x1), (2, .int x2), (3, .int x3)] → IS D K sh ad cy X (AS K ad X) s.heap H locs G L O → k58 (G, x3) = some Gz → W p l e (rmX 2 0 0) s m args below meth c H locs 0 0 (MQ below (QV (AS K ad X) (PH D K sh ad cy X Gz L O)) args s 0 0 (AS K ad X)) (F0 m 58 ls []))  (G : Mem) (x3 : Int32) (H : Heap) (locs : List Loc) (ls : Array Slot), lv_has ls 4 [(0, .ref (ad 0)), (1, .int x1), (2, .int x2), (3, .int x3)] → IS D K sh ad cy X (AS K ad X) s.heap H locs G L O → j_X12_findFacts_112 x1 x2 k58 G x3 = some Gz → W p l e (rmX 2 0 0) s m args below meth c H locs 0 0 (MQ below (QV (AS K ad X) (PH D K sh ad cy X Gz L O)) args s 0 0 (AS K ad X)) (F0 m 112 ls []) := by
    intro k58 hk58 G x3 H locs ls hl hI hf
    rw [j_X12_findFacts_112] at hf
    refine lv_iload_n hx hb dX12_findFacts_112 rfl (lv_at hl 3 rfl) ?_
    refine lv_iload_n hx hb dX12_findFacts_113 rfl (lv_at hl 1 rfl) ?_
    refine lv_iconst (v := 1) hx hb dX12_findFacts_114 (by decide) ?_
    refine lv_isub hx hb dX12_findFacts_115 ?_
    refine lv_icmp_eq (tgt := 126) hx hb dX12_findFacts_116 (by decide) (fun c16 => ?_) (fun c16 => ?_)
    · have hf := ite_t c16 hf
      exact B126 _ hk58  G x3 H locs ls (lv_sub hl [0, 1, 2, 3] rfl) hI hf
    · have hf := ite_f c16 hf
      refine lv_iload_n hx hb dX12_findFacts_119 rfl (lv_at hl 3 rfl) ?_
      refine lv_iload_n hx hb dX12_findFacts_120 rfl (lv_at hl 1 rfl) ?_
      refine lv_iconst (v := 1) hx hb dX12_findFacts_121 (by decide) ?_
      refine lv_iadd hx hb dX12_findFacts_122 ?_
      refine lv_icmp_ne (tgt := 149) hx hb dX12_findFacts_123 (by decide) (fun c22 => ?_) (fun c22 => ?_)
      · have hf := ite_f c22 hf
        exact B149 _ hk58  G x3 H locs ls (lv_sub hl [0, 1, 2, 3] rfl) hI hf
      · have hf := ite_t c22 hf
        exact B126 _ hk58  G x3 H locs ls (lv_sub hl [0, 1, 2, 3] rfl) hI hf
  have B102 : ∀ (k58 : (Mem × Int32) → Option (Mem)) (hk58 : ∀ (G : Mem) (x3 : Int32) (H : Heap) (locs : List Loc) (ls : Array Slot), lv_has ls 4 [(0, .ref (ad 0)), (1, .int x1), (2, .int x2), (3, .int x3)] → IS D K sh ad cy X (AS K ad X) s.heap H locs G L O → k58 (G, x3) = some Gz → W p l e (rmX 2 0 0) s m args below meth c H locs 0 0 (MQ below (QV (AS K ad X) (PH D K sh ad cy X Gz L O)) args s 0 0 (AS K ad X)) (F0 m 58 ls []))  (G : Mem) (x3 : Int32) (H : Heap) (locs : List Loc) (ls : Array Slot), lv_has ls 4 [(0, .ref (ad 0)), (1, .int x1), (2, .int x2), (3, .int x3)] → IS D K sh ad cy X (AS K ad X) s.heap H locs G L O → j_X12_findFacts_102 x1 x2 k58 G x3 = some Gz → W p l e (rmX 2 0 0) s m args below meth c H locs 0 0 (MQ below (QV (AS K ad X) (PH D K sh ad cy X Gz L O)) args s 0 0 (AS K ad X)) (F0 m 102 ls []) := by
    intro k58 hk58 G x3 H locs ls hl hI hf
    rw [j_X12_findFacts_102] at hf
    refine lv_aload_n hx hb dX12_findFacts_102 rfl (lv_at hl 0 rfl) ?_
    refine s_get (v := .ref (ad 15)) hx hb hu inU12 hown hK hI (mE hE eM_0) rfl 28 (by decide) u4_216 (fun _ h => h) rfl rfl dX12_findFacts_103 ?_
    refine lv_iconst (v := 3) hx hb dX12_findFacts_106 (by decide) ?_
    refine lv_dup2_11 hx hb dX12_findFacts_107 rfl rfl ?_
    refine s_ild hx hb hK hI (mE hE eM_15) (inB_i (by decide)) dX12_findFacts_108 ?_
    refine lv_iconst (v := 1) hx hb dX12_findFacts_109 (by decide) ?_
    refine lv_iadd hx hb dX12_findFacts_110 ?_
    obtain ⟨G24, eG24, hf⟩ := bnd_i hf
    refine s_ist hx hb hK hI (mE hE eM_15) (inB_i (by decide)) eG24 dX12_findFacts_111 (fun H locs hI => ?_)
    exact B112 _ hk58  G24 x3 H locs ls (lv_sub hl [0, 1, 2, 3] rfl) hI hf
  have B58 : ∀   (n : Nat) (G : Mem) (x3 : Int32) (H : Heap) (locs : List Loc) (ls : Array Slot), lv_has ls 4 [(0, .ref (ad 0)), (1, .int x1), (2, .int x2), (3, .int x3)] → IS D K sh ad cy X (AS K ad X) s.heap H locs G L O → iter (q_X12_findFacts_58 x1 x2) n (G, x3) = some Gz → W p l e (rmX 2 0 0) s m args below meth c H locs 0 0 (MQ below (QV (AS K ad X) (PH D K sh ad cy X Gz L O)) args s 0 0 (AS K ad X)) (F0 m 58 ls []) := by
    intro n
    induction n with
    | zero => intro G x3 H locs ls hl hI hf; exact iter_0 hf
    | succ n ih =>
      intro G x3 H locs ls hl hI hf
      have hf : q_X12_findFacts_58 x1 x2 (iter (q_X12_findFacts_58 x1 x2) n) (G, x3) = some Gz := hf
      rw [q_X12_findFacts_58] at hf
      refine lv_iload_n hx hb dX12_findFacts_58 rfl (lv_at hl 3 rfl) ?_
      refine lv_aload_n hx hb dX12_findFacts_59 rfl (lv_at hl 0 rfl) ?_
      refine s_get (v := .int (G 0 7)) hx hb hu inU12 hown hK hI (mE hE eM_0) rfl 7 (by decide) u4_195 (fun _ h => h) rfl rfl dX12_findFacts_60 ?_
      refine lv_icmp_ge (tgt := 155) hx hb dX12_findFacts_63 (by decide) (fun c11 => ?_) (fun c11 => ?_)
      · have hf := ite_t c11 hf
        cases hf
        exact s_vret hx hb hr hI.2.2 hI.1 hlocks dX12_findFacts_155
      · have hf := ite_f c11 hf
        refine lv_iload_n hx hb dX12_findFacts_66 rfl (lv_at hl 3 rfl) ?_
        refine lv_iload_n hx hb dX12_findFacts_67 rfl (lv_at hl 1 rfl) ?_
        refine lv_icmp_ne (tgt := 74) hx hb dX12_findFacts_68 (by decide) (fun c12 => ?_) (fun c12 => ?_)
        · have hf := ite_f c12 hf
          refine lv_aload_n hx hb dX12_findFacts_74 rfl (lv_at hl 0 rfl) ?_
          refine s_get (v := .ref (ad 6)) hx hb hu inU12 hown hK hI (mE hE eM_0) rfl 9 (by decide) u4_197 (fun _ h => h) rfl rfl dX12_findFacts_75 ?_
          refine lv_iload_n hx hb dX12_findFacts_78 rfl (lv_at hl 3 rfl) ?_
          obtain ⟨h13, hf⟩ := chk_i hf
          refine s_ild hx hb hK hI (mE hE eM_6) (inB_i h13) dX12_findFacts_79 ?_
          refine lv_aload_n hx hb dX12_findFacts_80 rfl (lv_at hl 0 rfl) ?_
          refine s_get (v := .ref (ad 6)) hx hb hu inU12 hown hK hI (mE hE eM_0) rfl 9 (by decide) u4_197 (fun _ h => h) rfl rfl dX12_findFacts_81 ?_
          refine lv_iload_n hx hb dX12_findFacts_84 rfl (lv_at hl 1 rfl) ?_
          obtain ⟨h14, hf⟩ := chk_i hf
          refine s_ild hx hb hK hI (mE hE eM_6) (inB_i h14) dX12_findFacts_85 ?_
          refine lv_icmp_ne (tgt := 112) hx hb dX12_findFacts_86 (by decide) (fun c15 => ?_) (fun c15 => ?_)
          · have hf := ite_f c15 hf
            exact B112 _ ih  G x3 H locs ls (lv_sub hl [0, 1, 2, 3] rfl) hI hf
          · have hf := ite_t c15 hf
            refine lv_iload_n hx hb dX12_findFacts_89 rfl (lv_at hl 2 rfl) ?_
            refine lv_if_eq (tgt := 102) hx hb dX12_findFacts_90 (by decide) (fun c23 => ?_) (fun c23 => ?_)
            · have hf := ite_t c23 hf
              exact B102 _ ih  G x3 H locs ls (lv_sub hl [0, 1, 2, 3] rfl) hI hf
            · have hf := ite_f c23 hf
              refine lv_aload_n hx hb dX12_findFacts_93 rfl (lv_at hl 0 rfl) ?_
              refine s_get (v := .ref (ad 22)) hx hb hu inU12 hown hK hI (mE hE eM_0) rfl 35 (by decide) u4_223 (fun _ h => h) rfl rfl dX12_findFacts_94 ?_
              refine lv_iload_n hx hb dX12_findFacts_97 rfl (lv_at hl 3 rfl) ?_
              obtain ⟨h25, hf⟩ := chk_i hf
              refine s_zld hx hb hK hI (mE hE eM_22) (inB_i h25) dX12_findFacts_98 ?_
              refine lv_if_eq (tgt := 112) hx hb dX12_findFacts_99 (by decide) (fun c26 => ?_) (fun c26 => ?_)
              · have hf := ite_t c26 hf
                exact B112 _ ih  G x3 H locs ls (lv_sub hl [0, 1, 2, 3] rfl) hI hf
              · have hf := ite_f c26 hf
                exact B102 _ ih  G x3 H locs ls (lv_sub hl [0, 1, 2, 3] rfl) hI hf
        · have hf := ite_t c12 hf
          refine lv_goto (tgt := 149) hx hb dX12_findFacts_71 (by decide) ?_
          exact B149 _ ih  G x3 H locs ls (lv_sub hl [0, 1, 2, 3] rfl) hI hf
  rw [f_X12_findFacts] at hf
  refine lv_aload_n hx hb dX12_findFacts_0 rfl (lv_at hl 0 rfl) ?_
  refine s_get (v := .ref (ad 15)) hx hb hu inU12 hown hK hI (mE hE eM_0) rfl 28 (by decide) u4_216 (fun _ h => h) rfl rfl dX12_findFacts_1 ?_
  refine lv_iconst (v := 0) hx hb dX12_findFacts_4 (by decide) ?_
  refine lv_aload_n hx hb dX12_findFacts_5 rfl (lv_at hl 0 rfl) ?_
  refine s_get (v := .ref (ad 18)) hx hb hu inU12 hown hK hI (mE hE eM_0) rfl 31 (by decide) u4_219 (fun _ h => h) rfl rfl dX12_findFacts_6 ?_
  refine lv_iload_n hx hb dX12_findFacts_9 rfl (lv_at hl 1 rfl) ?_
  obtain ⟨h1, hf⟩ := chk_i hf
  refine s_ild hx hb hK hI (mE hE eM_18) (inB_i h1) dX12_findFacts_10 ?_
  obtain ⟨G2, eG2, hf⟩ := bnd_i hf
  refine s_ist hx hb hK hI (mE hE eM_15) (inB_i (by decide)) eG2 dX12_findFacts_11 (fun H locs hI => ?_)
  refine lv_aload_n hx hb dX12_findFacts_12 rfl (lv_at hl 0 rfl) ?_
  refine s_get (v := .ref (ad 15)) hx hb hu inU12 hown hK hI (mE hE eM_0) rfl 28 (by decide) u4_216 (fun _ h => h) rfl rfl dX12_findFacts_13 ?_
  refine lv_iconst (v := 1) hx hb dX12_findFacts_16 (by decide) ?_
  refine lv_aload_n hx hb dX12_findFacts_17 rfl (lv_at hl 0 rfl) ?_
  refine lv_iload_n hx hb dX12_findFacts_18 rfl (lv_at hl 2 rfl) ?_
  obtain ⟨v3, h4, hf⟩ := bndO_i hf
  refine s_afI hI (s_runV (rest := [.int 1, .ref (ad 15)]) (As := [.int x2]) (np := 1) E hK hI (s_B hcl hBs hI) hcl.2 (mE hE eM_0) rfl (c_X12_loudAt l D K sh ad cy X B hcl hE G2 L O x2 h4) kyX12_loudAt u6_25 u6_27 up_50 (by decide) rfl hl.1 rfl (Nat.le_of_ble_eq_true rfl) ⟨Nat.zero_le _, Nat.zero_le _⟩ dX12_findFacts_19) (fun H locs hI => ?_)
  obtain ⟨G5, eG5, hf⟩ := bnd_i hf
  refine s_ist hx hb hK hI (mE hE eM_15) (inB_i (by decide)) eG5 dX12_findFacts_22 (fun H locs hI => ?_)
  refine lv_aload_n hx hb dX12_findFacts_23 rfl (lv_at hl 0 rfl) ?_
  refine s_get (v := .ref (ad 15)) hx hb hu inU12 hown hK hI (mE hE eM_0) rfl 28 (by decide) u4_216 (fun _ h => h) rfl rfl dX12_findFacts_24 ?_
  refine lv_iconst (v := 2) hx hb dX12_findFacts_27 (by decide) ?_
  refine lv_iload_n hx hb dX12_findFacts_28 rfl (lv_at hl 2 rfl) ?_
  obtain ⟨G6, eG6, hf⟩ := bnd_i hf
  refine s_ist hx hb hK hI (mE hE eM_15) (inB_i (by decide)) eG6 dX12_findFacts_29 (fun H locs hI => ?_)
  refine lv_aload_n hx hb dX12_findFacts_30 rfl (lv_at hl 0 rfl) ?_
  refine s_get (v := .ref (ad 15)) hx hb hu inU12 hown hK hI (mE hE eM_0) rfl 28 (by decide) u4_216 (fun _ h => h) rfl rfl dX12_findFacts_31 ?_
  refine lv_iconst (v := 3) hx hb dX12_findFacts_34 (by decide) ?_
  refine lv_iconst (v := 0) hx hb dX12_findFacts_35 (by decide) ?_
  obtain ⟨G7, eG7, hf⟩ := bnd_i hf
  refine s_ist hx hb hK hI (mE hE eM_15) (inB_i (by decide)) eG7 dX12_findFacts_36 (fun H locs hI => ?_)
  refine lv_aload_n hx hb dX12_findFacts_37 rfl (lv_at hl 0 rfl) ?_
  refine s_get (v := .ref (ad 15)) hx hb hu inU12 hown hK hI (mE hE eM_0) rfl 28 (by decide) u4_216 (fun _ h => h) rfl rfl dX12_findFacts_38 ?_
  refine lv_iconst (v := 4) hx hb dX12_findFacts_41 (by decide) ?_
  refine lv_iconst (v := 0) hx hb dX12_findFacts_42 (by decide) ?_
  obtain ⟨G8, eG8, hf⟩ := bnd_i hf
  refine s_ist hx hb hK hI (mE hE eM_15) (inB_i (by decide)) eG8 dX12_findFacts_43 (fun H locs hI => ?_)
  refine lv_aload_n hx hb dX12_findFacts_44 rfl (lv_at hl 0 rfl) ?_
  refine s_get (v := .ref (ad 15)) hx hb hu inU12 hown hK hI (mE hE eM_0) rfl 28 (by decide) u4_216 (fun _ h => h) rfl rfl dX12_findFacts_45 ?_
  refine lv_iconst (v := 5) hx hb dX12_findFacts_48 (by decide) ?_
  refine lv_aload_n hx hb dX12_findFacts_49 rfl (lv_at hl 0 rfl) ?_
  refine s_get (v := .ref (ad 20)) hx hb hu inU12 hown hK hI (mE hE eM_0) rfl 33 (by decide) u4_221 (fun _ h => h) rfl rfl dX12_findFacts_50 ?_
  refine lv_iload_n hx hb dX12_findFacts_53 rfl (lv_at hl 1 rfl) ?_
  obtain ⟨h9, hf⟩ := chk_i hf
  refine s_ild hx hb hK hI (mE hE eM_20) (inB_i h9) dX12_findFacts_54 ?_
  obtain ⟨G10, eG10, hf⟩ := bnd_i hf
  refine s_ist hx hb hK hI (mE hE eM_15) (inB_i (by decide)) eG10 dX12_findFacts_55 (fun H locs hI => ?_)
  refine lv_iconst (v := 0) hx hb dX12_findFacts_56 (by decide) ?_
  refine lv_istore_n (lv' := [(3, .int 0), (0, .ref (ad 0)), (1, .int x1), (2, .int x2)]) hx hb dX12_findFacts_57 rfl hl (by decide) rfl (fun ls hl => ?_)
  exact B58   fuel G10 0 H locs ls (lv_sub hl [1, 2, 3, 0] rfl) hI hf
noncomputable def f_X12_breathes (G : Mem) (x1 : Int32) (x2 : Int32) (x3 : Int32) : Option (Mem × Int32) := (if x1 = 1 then chk (inB x3 48) ((if (G 2 x3.toNatClampNeg) = 1 then some (G, 1) else some (G, 0))) else (if (f_X12_in x1 2 5) = 0 then chk (inB x2 10) (chk (inB x2 10) (bndO (f_X12_loudAt G x3) (fun v5 => bndO (f_X12_canHold G x2 (G 20 x2.toNatClampNeg) v5) (fun v7 => (if (G 18 x2.toNatClampNeg) < v7 then (if x1 = 6 then some (G, 0) else bndO (f_X12_findFacts G x2 x3) (fun G11 => bndP (f_X12_gives G11 0) (fun G13 v14 => (if v14 = 0 then bndP (f_X12_gives G13 1) (fun G17 v18 => (if v18 = 0 then some (G17, 0) else chk (inB x2 10) (chk (inB (G17 6 x2.toNatClampNeg) 4) ((if (G17 15 (3 : Int32).toNatClampNeg) < (G17 4 (G17 6 x2.toNatClampNeg).toNatClampNeg) then some (G17, 0) else (if (G17 15 (4 : Int32).toNatClampNeg) = 0 then some (G17, 1) else some (G17, 0))))))) else some (G13, 1))))) else some (G, 1)))))) else bndO (f_X12_isPlanned G (x1 - 2) x2 x3) (fun v25 => chk (isB v25) (some (G, v25)))))
theorem kyX12_breathes : Ky yX12_breathes cX12_breathes 4 (some FieldType.boolean) 3 := ⟨u6_20, u1_15, by decide, by decide, by decide, by decide +kernel⟩
set_option maxHeartbeats 4000000 in
set_option maxRecDepth 100000 in
theorem c_X12_breathes (l : Launch) (D : va_G) (K : List Nat) (sh : Nat → Ent) (ad : Nat → Nat) (cy : Nat → ClassId) (X : va_W) (B : State → Prop) (hcl : Bcl (AS K ad X) B) (hE : ∀ q ∈ shM, q.1 ∈ K ∧ sh q.1 = q.2) (G : Mem) (L : MemL) (O : MemO) (x1 : Int32) (x2 : Int32) (x3 : Int32) {Gz : Mem} {vz : Int32} (hf : f_X12_breathes G x1 x2 x3 = some (Gz, vz)) : Met l yX12_breathes (wsU yX12_breathes cX12_breathes 4 (some FieldType.boolean)) (rmX 3 0 0) (va_Pc [.ref (ad 0), .int x1, .int x2, .int x3] (PS D K sh ad cy X B G L O)) (QI (AS K ad X) (PH D K sh ad cy X Gz L O) vz) 0 0 (AS K ad X) := by
  refine s_met (by decide) (Nat.le_of_ble_eq_true rfl) ?_
  intro p e s m args below meth c ls H locs E hK hBs hnm hI hl
  have hl : lv_has ls 4 [(0, .ref (ad 0)), (1, .int x1), (2, .int x2), (3, .int x3)] := hl
  have E : Cx p s m args meth c RX12 cX12_breathes 4 (some FieldType.boolean) := E
  obtain ⟨hx, hb, hr, hml, hown, hu, hlocks⟩ := id E
  rw [f_X12_breathes] at hf
  refine lv_iload_n hx hb dX12_breathes_0 rfl (lv_at hl 1 rfl) ?_
  refine lv_iconst (v := 1) hx hb dX12_breathes_1 (by decide) ?_
  refine lv_icmp_ne (tgt := 21) hx hb dX12_breathes_2 (by decide) (fun c1 => ?_) (fun c1 => ?_)
  · have hf := ite_f c1 hf
    refine lv_iload_n hx hb dX12_breathes_21 rfl (lv_at hl 1 rfl) ?_
    refine lv_iconst (v := 2) hx hb dX12_breathes_22 (by decide) ?_
    refine lv_iconst (v := 5) hx hb dX12_breathes_23 (by decide) ?_
    refine s_cSP (np := 3) (rest := []) E (c_X12_in l x1 2 5 rfl) kyX12_in u5_128 u5_129 (by decide) rfl hl.1 rfl (Nat.le_of_ble_eq_true rfl) ⟨Nat.zero_le _, Nat.zero_le _⟩ dX12_breathes_24 ?_
    refine lv_if_eq (tgt := 40) hx hb dX12_breathes_27 (by decide) (fun c2 => ?_) (fun c2 => ?_)
    · have hf := ite_t c2 hf
      refine lv_aload_n hx hb dX12_breathes_40 rfl (lv_at hl 0 rfl) ?_
      refine s_get (v := .ref (ad 18)) hx hb hu inU12 hown hK hI (mE hE eM_0) rfl 31 (by decide) u4_219 (fun _ h => h) rfl rfl dX12_breathes_41 ?_
      refine lv_iload_n hx hb dX12_breathes_44 rfl (lv_at hl 2 rfl) ?_
      obtain ⟨h3, hf⟩ := chk_i hf
      refine s_ild hx hb hK hI (mE hE eM_18) (inB_i h3) dX12_breathes_45 ?_
      refine lv_aload_n hx hb dX12_breathes_46 rfl (lv_at hl 0 rfl) ?_
      refine lv_iload_n hx hb dX12_breathes_47 rfl (lv_at hl 2 rfl) ?_
      refine lv_aload_n hx hb dX12_breathes_48 rfl (lv_at hl 0 rfl) ?_
      refine s_get (v := .ref (ad 20)) hx hb hu inU12 hown hK hI (mE hE eM_0) rfl 33 (by decide) u4_221 (fun _ h => h) rfl rfl dX12_breathes_49 ?_
      refine lv_iload_n hx hb dX12_breathes_52 rfl (lv_at hl 2 rfl) ?_
      obtain ⟨h4, hf⟩ := chk_i hf
      refine s_ild hx hb hK hI (mE hE eM_20) (inB_i h4) dX12_breathes_53 ?_
      refine lv_aload_n hx hb dX12_breathes_54 rfl (lv_at hl 0 rfl) ?_
      refine lv_iload_n hx hb dX12_breathes_55 rfl (lv_at hl 3 rfl) ?_
      obtain ⟨v5, h6, hf⟩ := bndO_i hf
      refine s_afI hI (s_runV (rest := [.int (G 20 x2.toNatClampNeg), .int x2, .ref (ad 0), .int (G 18 x2.toNatClampNeg)]) (As := [.int x3]) (np := 1) E hK hI (s_B hcl hBs hI) hcl.2 (mE hE eM_0) rfl (c_X12_loudAt l D K sh ad cy X B hcl hE G L O x3 h6) kyX12_loudAt u6_25 u6_27 up_50 (by decide) rfl hl.1 rfl (Nat.le_of_ble_eq_true rfl) ⟨Nat.zero_le _, Nat.zero_le _⟩ dX12_breathes_56) (fun H locs hI => ?_)
      obtain ⟨v7, h8, hf⟩ := bndO_i hf
      refine s_afI hI (s_runV (rest := [.int (G 18 x2.toNatClampNeg)]) (As := [.int x2, .int (G 20 x2.toNatClampNeg), .int v5]) (np := 3) E hK hI (s_B hcl hBs hI) hcl.2 (mE hE eM_0) rfl (c_X12_canHold l D K sh ad cy X B hcl hE G L O x2 (G 20 x2.toNatClampNeg) v5 h8) kyX12_canHold u5_147 u5_149 up_26 (by decide) rfl hl.1 rfl (Nat.le_of_ble_eq_true rfl) ⟨Nat.zero_le _, Nat.zero_le _⟩ dX12_breathes_59) (fun H locs hI => ?_)
      refine lv_icmp_lt (tgt := 67) hx hb dX12_breathes_62 (by decide) (fun c9 => ?_) (fun c9 => ?_)
      · have hf := ite_t c9 hf
        refine lv_iload_n hx hb dX12_breathes_67 rfl (lv_at hl 1 rfl) ?_
        refine lv_bipush (v := 6) hx hb dX12_breathes_68 (by decide) ?_
        refine lv_icmp_ne (tgt := 75) hx hb dX12_breathes_70 (by decide) (fun c10 => ?_) (fun c10 => ?_)
        · have hf := ite_f c10 hf
          refine lv_aload_n hx hb dX12_breathes_75 rfl (lv_at hl 0 rfl) ?_
          refine lv_iload_n hx hb dX12_breathes_76 rfl (lv_at hl 2 rfl) ?_
          refine lv_iload_n hx hb dX12_breathes_77 rfl (lv_at hl 3 rfl) ?_
          obtain ⟨G11, h12, hf⟩ := bndO_i hf
          refine s_afV hI (s_runV (rest := []) (As := [.int x2, .int x3]) (np := 2) E hK hI (s_B hcl hBs hI) hcl.2 (mE hE eM_0) rfl (c_X12_findFacts l D K sh ad cy X B hcl hE G L O x2 x3 h12) kyX12_findFacts u6_29 u6_31 up_51 (by decide) rfl hl.1 rfl (Nat.le_of_ble_eq_true rfl) ⟨Nat.zero_le _, Nat.zero_le _⟩ dX12_breathes_78) (fun H locs hI => ?_)
          refine lv_aload_n hx hb dX12_breathes_81 rfl (lv_at hl 0 rfl) ?_
          refine lv_iconst (v := 0) hx hb dX12_breathes_82 (by decide) ?_
          obtain ⟨G13, v14, h15, hf⟩ := bndP_i hf
          refine s_afI hI (s_runV (rest := []) (As := [.int 0]) (np := 1) E hK hI (s_B hcl hBs hI) hcl.2 (mE hE eM_0) rfl (c_X12_gives l D K sh ad cy X B hcl hE G11 L O 0 h15) kyX12_gives u6_33 u6_35 up_52 (by decide) rfl hl.1 rfl (Nat.le_of_ble_eq_true rfl) ⟨Nat.zero_le _, Nat.zero_le _⟩ dX12_breathes_83) (fun H locs hI => ?_)
          refine lv_if_eq (tgt := 91) hx hb dX12_breathes_86 (by decide) (fun c16 => ?_) (fun c16 => ?_)
          · have hf := ite_t c16 hf
            refine lv_aload_n hx hb dX12_breathes_91 rfl (lv_at hl 0 rfl) ?_
            refine lv_iconst (v := 1) hx hb dX12_breathes_92 (by decide) ?_
            obtain ⟨G17, v18, h19, hf⟩ := bndP_i hf
            refine s_afI hI (s_runV (rest := []) (As := [.int 1]) (np := 1) E hK hI (s_B hcl hBs hI) hcl.2 (mE hE eM_0) rfl (c_X12_gives l D K sh ad cy X B hcl hE G13 L O 1 h19) kyX12_gives u6_33 u6_35 up_52 (by decide) rfl hl.1 rfl (Nat.le_of_ble_eq_true rfl) ⟨Nat.zero_le _, Nat.zero_le _⟩ dX12_breathes_93) (fun H locs hI => ?_)
            refine lv_if_eq (tgt := 132) hx hb dX12_breathes_96 (by decide) (fun c20 => ?_) (fun c20 => ?_)
            · have hf := ite_t c20 hf
              refine lv_iconst (v := 0) hx hb dX12_breathes_132 (by decide) ?_
              cases hf
              exact s_zret rfl hx hb hr hI.2.2 hI.1 hlocks dX12_breathes_133
            · have hf := ite_f c20 hf
              refine lv_aload_n hx hb dX12_breathes_99 rfl (lv_at hl 0 rfl) ?_
              refine s_get (v := .ref (ad 15)) hx hb hu inU12 hown hK hI (mE hE eM_0) rfl 28 (by decide) u4_216 (fun _ h => h) rfl rfl dX12_breathes_100 ?_
              refine lv_iconst (v := 3) hx hb dX12_breathes_103 (by decide) ?_
              refine s_ild hx hb hK hI (mE hE eM_15) (inB_i (by decide)) dX12_breathes_104 ?_
              refine lv_aload_n hx hb dX12_breathes_105 rfl (lv_at hl 0 rfl) ?_
              refine s_get (v := .ref (ad 4)) hx hb hu inU12 hown hK hI (mE hE eM_0) rfl 6 (by decide) u4_194 (fun _ h => h) rfl rfl dX12_breathes_106 ?_
              refine lv_aload_n hx hb dX12_breathes_109 rfl (lv_at hl 0 rfl) ?_
              refine s_get (v := .ref (ad 6)) hx hb hu inU12 hown hK hI (mE hE eM_0) rfl 9 (by decide) u4_197 (fun _ h => h) rfl rfl dX12_breathes_110 ?_
              refine lv_iload_n hx hb dX12_breathes_113 rfl (lv_at hl 2 rfl) ?_
              obtain ⟨h21, hf⟩ := chk_i hf
              refine s_ild hx hb hK hI (mE hE eM_6) (inB_i h21) dX12_breathes_114 ?_
              obtain ⟨h22, hf⟩ := chk_i hf
              refine s_ild hx hb hK hI (mE hE eM_4) (inB_i h22) dX12_breathes_115 ?_
              refine lv_icmp_lt (tgt := 132) hx hb dX12_breathes_116 (by decide) (fun c23 => ?_) (fun c23 => ?_)
              · have hf := ite_t c23 hf
                refine lv_iconst (v := 0) hx hb dX12_breathes_132 (by decide) ?_
                cases hf
                exact s_zret rfl hx hb hr hI.2.2 hI.1 hlocks dX12_breathes_133
              · have hf := ite_f c23 hf
                refine lv_aload_n hx hb dX12_breathes_119 rfl (lv_at hl 0 rfl) ?_
                refine s_get (v := .ref (ad 15)) hx hb hu inU12 hown hK hI (mE hE eM_0) rfl 28 (by decide) u4_216 (fun _ h => h) rfl rfl dX12_breathes_120 ?_
                refine lv_iconst (v := 4) hx hb dX12_breathes_123 (by decide) ?_
                refine s_ild hx hb hK hI (mE hE eM_15) (inB_i (by decide)) dX12_breathes_124 ?_
                refine lv_if_ne (tgt := 132) hx hb dX12_breathes_125 (by decide) (fun c24 => ?_) (fun c24 => ?_)
                · have hf := ite_f c24 hf
                  refine lv_iconst (v := 0) hx hb dX12_breathes_132 (by decide) ?_
                  cases hf
                  exact s_zret rfl hx hb hr hI.2.2 hI.1 hlocks dX12_breathes_133
                · have hf := ite_t c24 hf
                  refine lv_iconst (v := 1) hx hb dX12_breathes_128 (by decide) ?_
                  refine lv_goto (tgt := 133) hx hb dX12_breathes_129 (by decide) ?_
                  cases hf
                  exact s_zret rfl hx hb hr hI.2.2 hI.1 hlocks dX12_breathes_133
          · have hf := ite_f c16 hf
            refine lv_iconst (v := 1) hx hb dX12_breathes_89 (by decide) ?_
            cases hf
            exact s_zret rfl hx hb hr hI.2.2 hI.1 hlocks dX12_breathes_90
        · have hf := ite_t c10 hf
          refine lv_iconst (v := 0) hx hb dX12_breathes_73 (by decide) ?_
          cases hf
          exact s_zret rfl hx hb hr hI.2.2 hI.1 hlocks dX12_breathes_74
      · have hf := ite_f c9 hf
        refine lv_iconst (v := 1) hx hb dX12_breathes_65 (by decide) ?_
        cases hf
        exact s_zret rfl hx hb hr hI.2.2 hI.1 hlocks dX12_breathes_66
    · have hf := ite_f c2 hf
      refine lv_aload_n hx hb dX12_breathes_30 rfl (lv_at hl 0 rfl) ?_
      refine lv_iload_n hx hb dX12_breathes_31 rfl (lv_at hl 1 rfl) ?_
      refine lv_iconst (v := 2) hx hb dX12_breathes_32 (by decide) ?_
      refine lv_isub hx hb dX12_breathes_33 ?_
      refine lv_iload_n hx hb dX12_breathes_34 rfl (lv_at hl 2 rfl) ?_
      refine lv_iload_n hx hb dX12_breathes_35 rfl (lv_at hl 3 rfl) ?_
      obtain ⟨v25, h26, hf⟩ := bndO_i hf
      refine s_afI hI (s_runV (rest := []) (As := [.int (x1 - 2), .int x2, .int x3]) (np := 3) E hK hI (s_B hcl hBs hI) hcl.2 (mE hE eM_0) rfl (c_X12_isPlanned l D K sh ad cy X B hcl hE G L O (x1 - 2) x2 x3 h26) kyX12_isPlanned u6_21 u6_23 up_49 (by decide) rfl hl.1 rfl (Nat.le_of_ble_eq_true rfl) ⟨Nat.zero_le _, Nat.zero_le _⟩ dX12_breathes_36) (fun H locs hI => ?_)
      obtain ⟨h27, hf⟩ := chk_i hf
      cases hf
      exact s_zret (isB_i h27) hx hb hr hI.2.2 hI.1 hlocks dX12_breathes_39
  · have hf := ite_t c1 hf
    refine lv_aload_n hx hb dX12_breathes_5 rfl (lv_at hl 0 rfl) ?_
    refine s_get (v := .ref (ad 2)) hx hb hu inU12 hown hK hI (mE hE eM_0) rfl 4 (by decide) u4_192 (fun _ h => h) rfl rfl dX12_breathes_6 ?_
    refine lv_iload_n hx hb dX12_breathes_9 rfl (lv_at hl 3 rfl) ?_
    obtain ⟨h28, hf⟩ := chk_i hf
    refine s_ild hx hb hK hI (mE hE eM_2) (inB_i h28) dX12_breathes_10 ?_
    refine lv_iconst (v := 1) hx hb dX12_breathes_11 (by decide) ?_
    refine lv_icmp_ne (tgt := 19) hx hb dX12_breathes_12 (by decide) (fun c29 => ?_) (fun c29 => ?_)
    · have hf := ite_f c29 hf
      refine lv_iconst (v := 0) hx hb dX12_breathes_19 (by decide) ?_
      cases hf
      exact s_zret rfl hx hb hr hI.2.2 hI.1 hlocks dX12_breathes_20
    · have hf := ite_t c29 hf
      refine lv_iconst (v := 1) hx hb dX12_breathes_15 (by decide) ?_
      refine lv_goto (tgt := 20) hx hb dX12_breathes_16 (by decide) ?_
      cases hf
      exact s_zret rfl hx hb hr hI.2.2 hI.1 hlocks dX12_breathes_20
noncomputable def j_X12_go_124 (x1 : Int32) (x2 : Int32) (k30 : (Mem × Int32) → Option (Mem)) (G : Mem) (x3 : Int32) : Option (Mem) := chk (inB x3 10) ((if (G 19 x3.toNatClampNeg) = 0 then chk (inB x3 10) (bnd (up2 G 21 x3.toNatClampNeg (vp_nar .boolean 1)) (fun G23 => chk (inB x3 10) ((if (G23 21 x3.toNatClampNeg) = 0 then chk (inB x3 10) (chk (inB x3 10) (bnd (up2 G23 19 x3.toNatClampNeg ((G23 19 x3.toNatClampNeg) - 1)) (fun G28 => chk (inB x3 10) (bnd (up2 G28 18 x3.toNatClampNeg 0) (fun G30 => bnd (x3 + 1) (fun x3_31 => k30 (G30, x3_31))))))) else chk (inB x3 10) (chk (inB x3 10) (bnd (up2 G23 18 x3.toNatClampNeg ((G23 18 x3.toNatClampNeg) + 1)) (fun G34 => bnd (x3 + 1) (fun x3_35 => k30 (G34, x3_35))))))))) else chk (inB x3 10) (bnd (up2 G 21 x3.toNatClampNeg (vp_nar .boolean 0)) (fun G9 => chk (inB x3 10) ((if (G9 21 x3.toNatClampNeg) = 0 then chk (inB x3 10) (chk (inB x3 10) (bnd (up2 G9 19 x3.toNatClampNeg ((G9 19 x3.toNatClampNeg) - 1)) (fun G14 => chk (inB x3 10) (bnd (up2 G14 18 x3.toNatClampNeg 0) (fun G16 => bnd (x3 + 1) (fun x3_17 => k30 (G16, x3_17))))))) else chk (inB x3 10) (chk (inB x3 10) (bnd (up2 G9 18 x3.toNatClampNeg ((G9 18 x3.toNatClampNeg) + 1)) (fun G20 => bnd (x3 + 1) (fun x3_21 => k30 (G20, x3_21)))))))))))
noncomputable def j_X12_go_78 (x1 : Int32) (x2 : Int32) (k30 : (Mem × Int32) → Option (Mem)) (G : Mem) (x3 : Int32) : Option (Mem) := chk (inB x3 10) ((if (G 19 x3.toNatClampNeg) = 0 then bndP (f_X12_breathes G x1 x3 x2) (fun G36 v37 => (if v37 = 0 then j_X12_go_124 x1 x2 k30 G36 x3 else chk (inB x3 10) (bndO (f_X12_takes G36 x3 (G36 20 x3.toNatClampNeg)) (fun v41 => chk (inB x3 10) (bnd (up2 G36 19 x3.toNatClampNeg v41) (fun G44 => chk (inB x3 10) (chk (inB x3 10) (bnd (up2 G44 20 x3.toNatClampNeg ((G44 20 x3.toNatClampNeg) + 1)) (fun G47 => j_X12_go_124 x1 x2 k30 G47 x3))))))))) else j_X12_go_124 x1 x2 k30 G x3))
noncomputable def q_X12_go_30 (x1 : Int32) (x2 : Int32)  (rec : (Mem × Int32) → Option (Mem)) : (Mem × Int32) → Option (Mem) := fun (G, x3) => (if (G 0 7) ≤ x3 then some G else (if x3 = (G 0 36) then (if x2 < (G 0 37) then j_X12_go_78 x1 x2 rec G x3 else chk (inB x3 10) (bnd (up2 G 21 x3.toNatClampNeg (vp_nar .boolean 0)) (fun G50 => chk (inB x3 10) (bnd (up2 G50 18 x3.toNatClampNeg 0) (fun G52 => chk (inB x3 10) (bnd (up2 G52 19 x3.toNatClampNeg 0) (fun G54 => bnd (x3 + 1) (fun x3_55 => rec (G54, x3_55))))))))) else j_X12_go_78 x1 x2 rec G x3))
noncomputable def q_X12_go_2 (x1 : Int32) (x2 : Int32)  (rec : (Mem × Int32) → Option (Mem)) : (Mem × Int32) → Option (Mem) := fun (G, x3) => (if (G 0 7) ≤ x3 then iter (q_X12_go_30 x1 x2) fuel (G, 0) else chk (inB x3 10) (chk (inB x3 10) (bnd (up2 G 22 x3.toNatClampNeg (vp_nar .boolean (G 21 x3.toNatClampNeg))) (fun G58 => bnd (x3 + 1) (fun x3_59 => rec (G58, x3_59))))))
noncomputable def f_X12_go (G : Mem) (x1 : Int32) (x2 : Int32) : Option (Mem) := iter (q_X12_go_2 x1 x2) fuel (G, 0)
theorem kyX12_go : Ky yX12_go cX12_go 4 none 2 := ⟨u6_16, u1_15, by decide, by decide, by decide, by decide +kernel⟩
set_option maxHeartbeats 4000000 in
set_option maxRecDepth 100000 in
theorem c_X12_go (l : Launch) (D : va_G) (K : List Nat) (sh : Nat → Ent) (ad : Nat → Nat) (cy : Nat → ClassId) (X : va_W) (B : State → Prop) (hcl : Bcl (AS K ad X) B) (hE : ∀ q ∈ shM, q.1 ∈ K ∧ sh q.1 = q.2) (G : Mem) (L : MemL) (O : MemO) (x1 : Int32) (x2 : Int32) {Gz : Mem} (hf : f_X12_go G x1 x2 = some Gz) : Met l yX12_go (wsU yX12_go cX12_go 4 none) (rmX 4 0 0) (va_Pc [.ref (ad 0), .int x1, .int x2] (PS D K sh ad cy X B G L O)) (QV (AS K ad X) (PH D K sh ad cy X Gz L O)) 0 0 (AS K ad X) := by
  refine s_met (by decide) (Nat.le_of_ble_eq_true rfl) ?_
  intro p e s m args below meth c ls H locs E hK hBs hnm hI hl
  have hl : lv_has ls 4 [(0, .ref (ad 0)), (1, .int x1), (2, .int x2)] := hl
  have E : Cx p s m args meth c RX12 cX12_go 4 none := E
  obtain ⟨hx, hb, hr, hml, hown, hu, hlocks⟩ := id E
  have B124 : ∀ (k30 : (Mem × Int32) → Option (Mem)) (hk30 : ∀ (G : Mem) (x3 : Int32) (H : Heap) (locs : List Loc) (ls : Array Slot), lv_has ls 4 [(0, .ref (ad 0)), (1, .int x1), (2, .int x2), (3, .int x3)] → IS D K sh ad cy X (AS K ad X) s.heap H locs G L O → k30 (G, x3) = some Gz → W p l e (rmX 4 0 0) s m args below meth c H locs 0 0 (MQ below (QV (AS K ad X) (PH D K sh ad cy X Gz L O)) args s 0 0 (AS K ad X)) (F0 m 30 ls []))  (G : Mem) (x3 : Int32) (H : Heap) (locs : List Loc) (ls : Array Slot), lv_has ls 4 [(0, .ref (ad 0)), (1, .int x1), (2, .int x2), (3, .int x3)] → IS D K sh ad cy X (AS K ad X) s.heap H locs G L O → j_X12_go_124 x1 x2 k30 G x3 = some Gz → W p l e (rmX 4 0 0) s m args below meth c H locs 0 0 (MQ below (QV (AS K ad X) (PH D K sh ad cy X Gz L O)) args s 0 0 (AS K ad X)) (F0 m 124 ls []) := by
    intro k30 hk30 G x3 H locs ls hl hI hf
    rw [j_X12_go_124] at hf
    refine lv_aload_n hx hb dX12_go_124 rfl (lv_at hl 0 rfl) ?_
    refine s_get (v := .ref (ad 21)) hx hb hu inU12 hown hK hI (mE hE eM_0) rfl 34 (by decide) u4_222 (fun _ h => h) rfl rfl dX12_go_125 ?_
    refine lv_iload_n hx hb dX12_go_128 rfl (lv_at hl 3 rfl) ?_
    refine lv_aload_n hx hb dX12_go_129 rfl (lv_at hl 0 rfl) ?_
    refine s_get (v := .ref (ad 19)) hx hb hu inU12 hown hK hI (mE hE eM_0) rfl 32 (by decide) u4_220 (fun _ h => h) rfl rfl dX12_go_130 ?_
    refine lv_iload_n hx hb dX12_go_133 rfl (lv_at hl 3 rfl) ?_
    obtain ⟨h6, hf⟩ := chk_i hf
    refine s_ild hx hb hK hI (mE hE eM_19) (inB_i h6) dX12_go_134 ?_
    refine lv_if_ne (tgt := 142) hx hb dX12_go_135 (by decide) (fun c7 => ?_) (fun c7 => ?_)
    · have hf := ite_f c7 hf
      refine lv_iconst (v := 0) hx hb dX12_go_142 (by decide) ?_
      obtain ⟨h8, hf⟩ := chk_i hf
      obtain ⟨G9, eG9, hf⟩ := bnd_i hf
      refine s_zst hx hb hK hI (mE hE eM_21) (inB_i h8) eG9 dX12_go_143 (fun H locs hI => ?_)
      refine lv_aload_n hx hb dX12_go_144 rfl (lv_at hl 0 rfl) ?_
      refine s_get (v := .ref (ad 21)) hx hb hu inU12 hown hK hI (mE hE eM_0) rfl 34 (by decide) u4_222 (fun _ h => h) rfl rfl dX12_go_145 ?_
      refine lv_iload_n hx hb dX12_go_148 rfl (lv_at hl 3 rfl) ?_
      obtain ⟨h10, hf⟩ := chk_i hf
      refine s_zld hx hb hK hI (mE hE eM_21) (inB_i h10) dX12_go_149 ?_
      refine lv_if_eq (tgt := 166) hx hb dX12_go_150 (by decide) (fun c11 => ?_) (fun c11 => ?_)
      · have hf := ite_t c11 hf
        refine lv_aload_n hx hb dX12_go_166 rfl (lv_at hl 0 rfl) ?_
        refine s_get (v := .ref (ad 19)) hx hb hu inU12 hown hK hI (mE hE eM_0) rfl 32 (by decide) u4_220 (fun _ h => h) rfl rfl dX12_go_167 ?_
        refine lv_iload_n hx hb dX12_go_170 rfl (lv_at hl 3 rfl) ?_
        refine lv_dup2_11 hx hb dX12_go_171 rfl rfl ?_
        obtain ⟨h12, hf⟩ := chk_i hf
        refine s_ild hx hb hK hI (mE hE eM_19) (inB_i h12) dX12_go_172 ?_
        refine lv_iconst (v := 1) hx hb dX12_go_173 (by decide) ?_
        refine lv_isub hx hb dX12_go_174 ?_
        obtain ⟨h13, hf⟩ := chk_i hf
        obtain ⟨G14, eG14, hf⟩ := bnd_i hf
        refine s_ist hx hb hK hI (mE hE eM_19) (inB_i h13) eG14 dX12_go_175 (fun H locs hI => ?_)
        refine lv_aload_n hx hb dX12_go_176 rfl (lv_at hl 0 rfl) ?_
        refine s_get (v := .ref (ad 18)) hx hb hu inU12 hown hK hI (mE hE eM_0) rfl 31 (by decide) u4_219 (fun _ h => h) rfl rfl dX12_go_177 ?_
        refine lv_iload_n hx hb dX12_go_180 rfl (lv_at hl 3 rfl) ?_
        refine lv_iconst (v := 0) hx hb dX12_go_181 (by decide) ?_
        obtain ⟨h15, hf⟩ := chk_i hf
        obtain ⟨G16, eG16, hf⟩ := bnd_i hf
        refine s_ist hx hb hK hI (mE hE eM_18) (inB_i h15) eG16 dX12_go_182 (fun H locs hI => ?_)
        obtain ⟨x3_17, ex3_17, hf⟩ := bnd_i hf
        refine lv_iinc (v := x3_17) (lv' := [(3, .int x3_17), (0, .ref (ad 0)), (1, .int x1), (2, .int x2)]) hx hb dX12_go_183 hl (k := 3) rfl (by rw [ex3_17]; rfl) (by decide) rfl (fun ls hl => ?_)
        refine lv_goto (tgt := 30) hx hb dX12_go_186 (by decide) ?_
        exact hk30 G16 x3_17 H locs ls (lv_sub hl [1, 2, 3, 0] rfl) hI hf
      · have hf := ite_f c11 hf
        refine lv_aload_n hx hb dX12_go_153 rfl (lv_at hl 0 rfl) ?_
        refine s_get (v := .ref (ad 18)) hx hb hu inU12 hown hK hI (mE hE eM_0) rfl 31 (by decide) u4_219 (fun _ h => h) rfl rfl dX12_go_154 ?_
        refine lv_iload_n hx hb dX12_go_157 rfl (lv_at hl 3 rfl) ?_
        refine lv_dup2_11 hx hb dX12_go_158 rfl rfl ?_
        obtain ⟨h18, hf⟩ := chk_i hf
        refine s_ild hx hb hK hI (mE hE eM_18) (inB_i h18) dX12_go_159 ?_
        refine lv_iconst (v := 1) hx hb dX12_go_160 (by decide) ?_
        refine lv_iadd hx hb dX12_go_161 ?_
        obtain ⟨h19, hf⟩ := chk_i hf
        obtain ⟨G20, eG20, hf⟩ := bnd_i hf
        refine s_ist hx hb hK hI (mE hE eM_18) (inB_i h19) eG20 dX12_go_162 (fun H locs hI => ?_)
        refine lv_goto (tgt := 183) hx hb dX12_go_163 (by decide) ?_
        obtain ⟨x3_21, ex3_21, hf⟩ := bnd_i hf
        refine lv_iinc (v := x3_21) (lv' := [(3, .int x3_21), (0, .ref (ad 0)), (1, .int x1), (2, .int x2)]) hx hb dX12_go_183 hl (k := 3) rfl (by rw [ex3_21]; rfl) (by decide) rfl (fun ls hl => ?_)
        refine lv_goto (tgt := 30) hx hb dX12_go_186 (by decide) ?_
        exact hk30 G20 x3_21 H locs ls (lv_sub hl [1, 2, 3, 0] rfl) hI hf
    · have hf := ite_t c7 hf
      refine lv_iconst (v := 1) hx hb dX12_go_138 (by decide) ?_
      refine lv_goto (tgt := 143) hx hb dX12_go_139 (by decide) ?_
      obtain ⟨h22, hf⟩ := chk_i hf
      obtain ⟨G23, eG23, hf⟩ := bnd_i hf
      refine s_zst hx hb hK hI (mE hE eM_21) (inB_i h22) eG23 dX12_go_143 (fun H locs hI => ?_)
      refine lv_aload_n hx hb dX12_go_144 rfl (lv_at hl 0 rfl) ?_
      refine s_get (v := .ref (ad 21)) hx hb hu inU12 hown hK hI (mE hE eM_0) rfl 34 (by decide) u4_222 (fun _ h => h) rfl rfl dX12_go_145 ?_
      refine lv_iload_n hx hb dX12_go_148 rfl (lv_at hl 3 rfl) ?_
      obtain ⟨h24, hf⟩ := chk_i hf
      refine s_zld hx hb hK hI (mE hE eM_21) (inB_i h24) dX12_go_149 ?_
      refine lv_if_eq (tgt := 166) hx hb dX12_go_150 (by decide) (fun c25 => ?_) (fun c25 => ?_)
      · have hf := ite_t c25 hf
        refine lv_aload_n hx hb dX12_go_166 rfl (lv_at hl 0 rfl) ?_
        refine s_get (v := .ref (ad 19)) hx hb hu inU12 hown hK hI (mE hE eM_0) rfl 32 (by decide) u4_220 (fun _ h => h) rfl rfl dX12_go_167 ?_
        refine lv_iload_n hx hb dX12_go_170 rfl (lv_at hl 3 rfl) ?_
        refine lv_dup2_11 hx hb dX12_go_171 rfl rfl ?_
        obtain ⟨h26, hf⟩ := chk_i hf
        refine s_ild hx hb hK hI (mE hE eM_19) (inB_i h26) dX12_go_172 ?_
        refine lv_iconst (v := 1) hx hb dX12_go_173 (by decide) ?_
        refine lv_isub hx hb dX12_go_174 ?_
        obtain ⟨h27, hf⟩ := chk_i hf
        obtain ⟨G28, eG28, hf⟩ := bnd_i hf
        refine s_ist hx hb hK hI (mE hE eM_19) (inB_i h27) eG28 dX12_go_175 (fun H locs hI => ?_)
        refine lv_aload_n hx hb dX12_go_176 rfl (lv_at hl 0 rfl) ?_
        refine s_get (v := .ref (ad 18)) hx hb hu inU12 hown hK hI (mE hE eM_0) rfl 31 (by decide) u4_219 (fun _ h => h) rfl rfl dX12_go_177 ?_
        refine lv_iload_n hx hb dX12_go_180 rfl (lv_at hl 3 rfl) ?_
        refine lv_iconst (v := 0) hx hb dX12_go_181 (by decide) ?_
        obtain ⟨h29, hf⟩ := chk_i hf
        obtain ⟨G30, eG30, hf⟩ := bnd_i hf
        refine s_ist hx hb hK hI (mE hE eM_18) (inB_i h29) eG30 dX12_go_182 (fun H locs hI => ?_)
        obtain ⟨x3_31, ex3_31, hf⟩ := bnd_i hf
        refine lv_iinc (v := x3_31) (lv' := [(3, .int x3_31), (0, .ref (ad 0)), (1, .int x1), (2, .int x2)]) hx hb dX12_go_183 hl (k := 3) rfl (by rw [ex3_31]; rfl) (by decide) rfl (fun ls hl => ?_)
        refine lv_goto (tgt := 30) hx hb dX12_go_186 (by decide) ?_
        exact hk30 G30 x3_31 H locs ls (lv_sub hl [1, 2, 3, 0] rfl) hI hf
      · have hf := ite_f c25 hf
        refine lv_aload_n hx hb dX12_go_153 rfl (lv_at hl 0 rfl) ?_
        refine s_get (v := .ref (ad 18)) hx hb hu inU12 hown hK hI (mE hE eM_0) rfl 31 (by decide) u4_219 (fun _ h => h) rfl rfl dX12_go_154 ?_
        refine lv_iload_n hx hb dX12_go_157 rfl (lv_at hl 3 rfl) ?_
        refine lv_dup2_11 hx hb dX12_go_158 rfl rfl ?_
        obtain ⟨h32, hf⟩ := chk_i hf
        refine s_ild hx hb hK hI (mE hE eM_18) (inB_i h32) dX12_go_159 ?_
        refine lv_iconst (v := 1) hx hb dX12_go_160 (by decide) ?_
        refine lv_iadd hx hb dX12_go_161 ?_
        obtain ⟨h33, hf⟩ := chk_i hf
        obtain ⟨G34, eG34, hf⟩ := bnd_i hf
        refine s_ist hx hb hK hI (mE hE eM_18) (inB_i h33) eG34 dX12_go_162 (fun H locs hI => ?_)
        refine lv_goto (tgt := 183) hx hb dX12_go_163 (by decide) ?_
        obtain ⟨x3_35, ex3_35, hf⟩ := bnd_i hf
        refine lv_iinc (v := x3_35) (lv' := [(3, .int x3_35), (0, .ref (ad 0)), (1, .int x1), (2, .int x2)]) hx hb dX12_go_183 hl (k := 3) rfl (by rw [ex3_35]; rfl) (by decide) rfl (fun ls hl => ?_)
        refine lv_goto (tgt := 30) hx hb dX12_go_186 (by decide) ?_
        exact hk30 G34 x3_35 H locs ls (lv_sub hl [1, 2, 3, 0] rfl) hI hf
  have B78 : ∀ (k30 : (Mem × Int32) → Option (Mem)) (hk30 : ∀ (G : Mem) (x3 : Int32) (H : Heap) (locs : List Loc) (ls : Array Slot), lv_has ls 4 [(0, .ref (ad 0)), (1, .int x1), (2, .int x2), (3, .int x3)] → IS D K sh ad cy X (AS K ad X) s.heap H locs G L O → k30 (G, x3) = some Gz → W p l e (rmX 4 0 0) s m args below meth c H locs 0 0 (MQ below (QV (AS K ad X) (PH D K sh ad cy X Gz L O)) args s 0 0 (AS K ad X)) (F0 m 30 ls []))  (G : Mem) (x3 : Int32) (H : Heap) (locs : List Loc) (ls : Array Slot), lv_has ls 4 [(0, .ref (ad 0)), (1, .int x1), (2, .int x2), (3, .int x3)] → IS D K sh ad cy X (AS K ad X) s.heap H locs G L O → j_X12_go_78 x1 x2 k30 G x3 = some Gz → W p l e (rmX 4 0 0) s m args below meth c H locs 0 0 (MQ below (QV (AS K ad X) (PH D K sh ad cy X Gz L O)) args s 0 0 (AS K ad X)) (F0 m 78 ls []) := by
    intro k30 hk30 G x3 H locs ls hl hI hf
    rw [j_X12_go_78] at hf
    refine lv_aload_n hx hb dX12_go_78 rfl (lv_at hl 0 rfl) ?_
    refine s_get (v := .ref (ad 19)) hx hb hu inU12 hown hK hI (mE hE eM_0) rfl 32 (by decide) u4_220 (fun _ h => h) rfl rfl dX12_go_79 ?_
    refine lv_iload_n hx hb dX12_go_82 rfl (lv_at hl 3 rfl) ?_
    obtain ⟨h4, hf⟩ := chk_i hf
    refine s_ild hx hb hK hI (mE hE eM_19) (inB_i h4) dX12_go_83 ?_
    refine lv_if_ne (tgt := 124) hx hb dX12_go_84 (by decide) (fun c5 => ?_) (fun c5 => ?_)
    · have hf := ite_f c5 hf
      exact B124 _ hk30  G x3 H locs ls (lv_sub hl [0, 1, 2, 3] rfl) hI hf
    · have hf := ite_t c5 hf
      refine lv_aload_n hx hb dX12_go_87 rfl (lv_at hl 0 rfl) ?_
      refine lv_iload_n hx hb dX12_go_88 rfl (lv_at hl 1 rfl) ?_
      refine lv_iload_n hx hb dX12_go_89 rfl (lv_at hl 3 rfl) ?_
      refine lv_iload_n hx hb dX12_go_90 rfl (lv_at hl 2 rfl) ?_
      obtain ⟨G36, v37, h38, hf⟩ := bndP_i hf
      refine s_afI hI (s_runV (rest := []) (As := [.int x1, .int x3, .int x2]) (np := 3) E hK hI (s_B hcl hBs hI) hcl.2 (mE hE eM_0) rfl (c_X12_breathes l D K sh ad cy X B hcl hE G L O x1 x3 x2 h38) kyX12_breathes u6_17 u6_19 up_48 (by decide) rfl hl.1 rfl (Nat.le_of_ble_eq_true rfl) ⟨Nat.zero_le _, Nat.zero_le _⟩ dX12_go_91) (fun H locs hI => ?_)
      refine lv_if_eq (tgt := 124) hx hb dX12_go_94 (by decide) (fun c39 => ?_) (fun c39 => ?_)
      · have hf := ite_t c39 hf
        exact B124 _ hk30  G36 x3 H locs ls (lv_sub hl [0, 1, 2, 3] rfl) hI hf
      · have hf := ite_f c39 hf
        refine lv_aload_n hx hb dX12_go_97 rfl (lv_at hl 0 rfl) ?_
        refine s_get (v := .ref (ad 19)) hx hb hu inU12 hown hK hI (mE hE eM_0) rfl 32 (by decide) u4_220 (fun _ h => h) rfl rfl dX12_go_98 ?_
        refine lv_iload_n hx hb dX12_go_101 rfl (lv_at hl 3 rfl) ?_
        refine lv_aload_n hx hb dX12_go_102 rfl (lv_at hl 0 rfl) ?_
        refine lv_iload_n hx hb dX12_go_103 rfl (lv_at hl 3 rfl) ?_
        refine lv_aload_n hx hb dX12_go_104 rfl (lv_at hl 0 rfl) ?_
        refine s_get (v := .ref (ad 20)) hx hb hu inU12 hown hK hI (mE hE eM_0) rfl 33 (by decide) u4_221 (fun _ h => h) rfl rfl dX12_go_105 ?_
        refine lv_iload_n hx hb dX12_go_108 rfl (lv_at hl 3 rfl) ?_
        obtain ⟨h40, hf⟩ := chk_i hf
        refine s_ild hx hb hK hI (mE hE eM_20) (inB_i h40) dX12_go_109 ?_
        obtain ⟨v41, h42, hf⟩ := bndO_i hf
        refine s_afI hI (s_runV (rest := [.int x3, .ref (ad 19)]) (As := [.int x3, .int (G36 20 x3.toNatClampNeg)]) (np := 2) E hK hI (s_B hcl hBs hI) hcl.2 (mE hE eM_0) rfl (c_X12_takes l D K sh ad cy X B hcl hE G36 L O x3 (G36 20 x3.toNatClampNeg) h42) kyX12_takes u5_151 u5_153 up_27 (by decide) rfl hl.1 rfl (Nat.le_of_ble_eq_true rfl) ⟨Nat.zero_le _, Nat.zero_le _⟩ dX12_go_110) (fun H locs hI => ?_)
        obtain ⟨h43, hf⟩ := chk_i hf
        obtain ⟨G44, eG44, hf⟩ := bnd_i hf
        refine s_ist hx hb hK hI (mE hE eM_19) (inB_i h43) eG44 dX12_go_113 (fun H locs hI => ?_)
        refine lv_aload_n hx hb dX12_go_114 rfl (lv_at hl 0 rfl) ?_
        refine s_get (v := .ref (ad 20)) hx hb hu inU12 hown hK hI (mE hE eM_0) rfl 33 (by decide) u4_221 (fun _ h => h) rfl rfl dX12_go_115 ?_
        refine lv_iload_n hx hb dX12_go_118 rfl (lv_at hl 3 rfl) ?_
        refine lv_dup2_11 hx hb dX12_go_119 rfl rfl ?_
        obtain ⟨h45, hf⟩ := chk_i hf
        refine s_ild hx hb hK hI (mE hE eM_20) (inB_i h45) dX12_go_120 ?_
        refine lv_iconst (v := 1) hx hb dX12_go_121 (by decide) ?_
        refine lv_iadd hx hb dX12_go_122 ?_
        obtain ⟨h46, hf⟩ := chk_i hf
        obtain ⟨G47, eG47, hf⟩ := bnd_i hf
        refine s_ist hx hb hK hI (mE hE eM_20) (inB_i h46) eG47 dX12_go_123 (fun H locs hI => ?_)
        exact B124 _ hk30  G47 x3 H locs ls (lv_sub hl [0, 1, 2, 3] rfl) hI hf
  have B30 : ∀   (n : Nat) (G : Mem) (x3 : Int32) (H : Heap) (locs : List Loc) (ls : Array Slot), lv_has ls 4 [(0, .ref (ad 0)), (1, .int x1), (2, .int x2), (3, .int x3)] → IS D K sh ad cy X (AS K ad X) s.heap H locs G L O → iter (q_X12_go_30 x1 x2) n (G, x3) = some Gz → W p l e (rmX 4 0 0) s m args below meth c H locs 0 0 (MQ below (QV (AS K ad X) (PH D K sh ad cy X Gz L O)) args s 0 0 (AS K ad X)) (F0 m 30 ls []) := by
    intro n
    induction n with
    | zero => intro G x3 H locs ls hl hI hf; exact iter_0 hf
    | succ n ih =>
      intro G x3 H locs ls hl hI hf
      have hf : q_X12_go_30 x1 x2 (iter (q_X12_go_30 x1 x2) n) (G, x3) = some Gz := hf
      rw [q_X12_go_30] at hf
      refine lv_iload_n hx hb dX12_go_30 rfl (lv_at hl 3 rfl) ?_
      refine lv_aload_n hx hb dX12_go_31 rfl (lv_at hl 0 rfl) ?_
      refine s_get (v := .int (G 0 7)) hx hb hu inU12 hown hK hI (mE hE eM_0) rfl 7 (by decide) u4_195 (fun _ h => h) rfl rfl dX12_go_32 ?_
      refine lv_icmp_ge (tgt := 189) hx hb dX12_go_35 (by decide) (fun c2 => ?_) (fun c2 => ?_)
      · have hf := ite_t c2 hf
        cases hf
        exact s_vret hx hb hr hI.2.2 hI.1 hlocks dX12_go_189
      · have hf := ite_f c2 hf
        refine lv_iload_n hx hb dX12_go_38 rfl (lv_at hl 3 rfl) ?_
        refine lv_aload_n hx hb dX12_go_39 rfl (lv_at hl 0 rfl) ?_
        refine s_get (v := .int (G 0 36)) hx hb hu inU12 hown hK hI (mE hE eM_0) rfl 36 (by decide) u4_224 (fun _ h => h) rfl rfl dX12_go_40 ?_
        refine lv_icmp_ne (tgt := 78) hx hb dX12_go_43 (by decide) (fun c3 => ?_) (fun c3 => ?_)
        · have hf := ite_f c3 hf
          exact B78 _ ih  G x3 H locs ls (lv_sub hl [0, 1, 2, 3] rfl) hI hf
        · have hf := ite_t c3 hf
          refine lv_iload_n hx hb dX12_go_46 rfl (lv_at hl 2 rfl) ?_
          refine lv_aload_n hx hb dX12_go_47 rfl (lv_at hl 0 rfl) ?_
          refine s_get (v := .int (G 0 37)) hx hb hu inU12 hown hK hI (mE hE eM_0) rfl 37 (by decide) u4_225 (fun _ h => h) rfl rfl dX12_go_48 ?_
          refine lv_icmp_lt (tgt := 78) hx hb dX12_go_51 (by decide) (fun c48 => ?_) (fun c48 => ?_)
          · have hf := ite_t c48 hf
            exact B78 _ ih  G x3 H locs ls (lv_sub hl [0, 1, 2, 3] rfl) hI hf
          · have hf := ite_f c48 hf
            refine lv_aload_n hx hb dX12_go_54 rfl (lv_at hl 0 rfl) ?_
            refine s_get (v := .ref (ad 21)) hx hb hu inU12 hown hK hI (mE hE eM_0) rfl 34 (by decide) u4_222 (fun _ h => h) rfl rfl dX12_go_55 ?_
            refine lv_iload_n hx hb dX12_go_58 rfl (lv_at hl 3 rfl) ?_
            refine lv_iconst (v := 0) hx hb dX12_go_59 (by decide) ?_
            obtain ⟨h49, hf⟩ := chk_i hf
            obtain ⟨G50, eG50, hf⟩ := bnd_i hf
            refine s_zst hx hb hK hI (mE hE eM_21) (inB_i h49) eG50 dX12_go_60 (fun H locs hI => ?_)
            refine lv_aload_n hx hb dX12_go_61 rfl (lv_at hl 0 rfl) ?_
            refine s_get (v := .ref (ad 18)) hx hb hu inU12 hown hK hI (mE hE eM_0) rfl 31 (by decide) u4_219 (fun _ h => h) rfl rfl dX12_go_62 ?_
            refine lv_iload_n hx hb dX12_go_65 rfl (lv_at hl 3 rfl) ?_
            refine lv_iconst (v := 0) hx hb dX12_go_66 (by decide) ?_
            obtain ⟨h51, hf⟩ := chk_i hf
            obtain ⟨G52, eG52, hf⟩ := bnd_i hf
            refine s_ist hx hb hK hI (mE hE eM_18) (inB_i h51) eG52 dX12_go_67 (fun H locs hI => ?_)
            refine lv_aload_n hx hb dX12_go_68 rfl (lv_at hl 0 rfl) ?_
            refine s_get (v := .ref (ad 19)) hx hb hu inU12 hown hK hI (mE hE eM_0) rfl 32 (by decide) u4_220 (fun _ h => h) rfl rfl dX12_go_69 ?_
            refine lv_iload_n hx hb dX12_go_72 rfl (lv_at hl 3 rfl) ?_
            refine lv_iconst (v := 0) hx hb dX12_go_73 (by decide) ?_
            obtain ⟨h53, hf⟩ := chk_i hf
            obtain ⟨G54, eG54, hf⟩ := bnd_i hf
            refine s_ist hx hb hK hI (mE hE eM_19) (inB_i h53) eG54 dX12_go_74 (fun H locs hI => ?_)
            refine lv_goto (tgt := 183) hx hb dX12_go_75 (by decide) ?_
            obtain ⟨x3_55, ex3_55, hf⟩ := bnd_i hf
            refine lv_iinc (v := x3_55) (lv' := [(3, .int x3_55), (0, .ref (ad 0)), (1, .int x1), (2, .int x2)]) hx hb dX12_go_183 hl (k := 3) rfl (by rw [ex3_55]; rfl) (by decide) rfl (fun ls hl => ?_)
            refine lv_goto (tgt := 30) hx hb dX12_go_186 (by decide) ?_
            exact ih G54 x3_55 H locs ls (lv_sub hl [1, 2, 3, 0] rfl) hI hf
  have B2 : ∀   (n : Nat) (G : Mem) (x3 : Int32) (H : Heap) (locs : List Loc) (ls : Array Slot), lv_has ls 4 [(0, .ref (ad 0)), (1, .int x1), (2, .int x2), (3, .int x3)] → IS D K sh ad cy X (AS K ad X) s.heap H locs G L O → iter (q_X12_go_2 x1 x2) n (G, x3) = some Gz → W p l e (rmX 4 0 0) s m args below meth c H locs 0 0 (MQ below (QV (AS K ad X) (PH D K sh ad cy X Gz L O)) args s 0 0 (AS K ad X)) (F0 m 2 ls []) := by
    intro n
    induction n with
    | zero => intro G x3 H locs ls hl hI hf; exact iter_0 hf
    | succ n ih =>
      intro G x3 H locs ls hl hI hf
      have hf : q_X12_go_2 x1 x2 (iter (q_X12_go_2 x1 x2) n) (G, x3) = some Gz := hf
      rw [q_X12_go_2] at hf
      refine lv_iload_n hx hb dX12_go_2 rfl (lv_at hl 3 rfl) ?_
      refine lv_aload_n hx hb dX12_go_3 rfl (lv_at hl 0 rfl) ?_
      refine s_get (v := .int (G 0 7)) hx hb hu inU12 hown hK hI (mE hE eM_0) rfl 7 (by decide) u4_195 (fun _ h => h) rfl rfl dX12_go_4 ?_
      refine lv_icmp_ge (tgt := 28) hx hb dX12_go_7 (by decide) (fun c1 => ?_) (fun c1 => ?_)
      · have hf := ite_t c1 hf
        refine lv_iconst (v := 0) hx hb dX12_go_28 (by decide) ?_
        refine lv_istore_n (lv' := [(3, .int 0), (0, .ref (ad 0)), (1, .int x1), (2, .int x2)]) hx hb dX12_go_29 rfl hl (by decide) rfl (fun ls hl => ?_)
        exact B30   fuel G 0 H locs ls (lv_sub hl [1, 2, 3, 0] rfl) hI hf
      · have hf := ite_f c1 hf
        refine lv_aload_n hx hb dX12_go_10 rfl (lv_at hl 0 rfl) ?_
        refine s_get (v := .ref (ad 22)) hx hb hu inU12 hown hK hI (mE hE eM_0) rfl 35 (by decide) u4_223 (fun _ h => h) rfl rfl dX12_go_11 ?_
        refine lv_iload_n hx hb dX12_go_14 rfl (lv_at hl 3 rfl) ?_
        refine lv_aload_n hx hb dX12_go_15 rfl (lv_at hl 0 rfl) ?_
        refine s_get (v := .ref (ad 21)) hx hb hu inU12 hown hK hI (mE hE eM_0) rfl 34 (by decide) u4_222 (fun _ h => h) rfl rfl dX12_go_16 ?_
        refine lv_iload_n hx hb dX12_go_19 rfl (lv_at hl 3 rfl) ?_
        obtain ⟨h56, hf⟩ := chk_i hf
        refine s_zld hx hb hK hI (mE hE eM_21) (inB_i h56) dX12_go_20 ?_
        obtain ⟨h57, hf⟩ := chk_i hf
        obtain ⟨G58, eG58, hf⟩ := bnd_i hf
        refine s_zst hx hb hK hI (mE hE eM_22) (inB_i h57) eG58 dX12_go_21 (fun H locs hI => ?_)
        obtain ⟨x3_59, ex3_59, hf⟩ := bnd_i hf
        refine lv_iinc (v := x3_59) (lv' := [(3, .int x3_59), (0, .ref (ad 0)), (1, .int x1), (2, .int x2)]) hx hb dX12_go_22 hl (k := 3) rfl (by rw [ex3_59]; rfl) (by decide) rfl (fun ls hl => ?_)
        refine lv_goto (tgt := 2) hx hb dX12_go_25 (by decide) ?_
        exact ih G58 x3_59 H locs ls (lv_sub hl [1, 2, 3, 0] rfl) hI hf
  rw [f_X12_go] at hf
  refine lv_iconst (v := 0) hx hb dX12_go_0 (by decide) ?_
  refine lv_istore_n (lv' := [(3, .int 0), (0, .ref (ad 0)), (1, .int x1), (2, .int x2)]) hx hb dX12_go_1 rfl hl (by decide) rfl (fun ls hl => ?_)
  exact B2   fuel G 0 H locs ls (lv_sub hl [1, 2, 3, 0] rfl) hI hf
noncomputable def q_X12_ofVoice_4 (G : Mem) (x1 : Int32)  (rec : (Int32 × Int32) → Option (Int32)) : (Int32 × Int32) → Option (Int32) := fun (x2, x3) => (if (G 0 7) ≤ x3 then some x2 else chk (inB x3 10) ((if (G 21 x3.toNatClampNeg) = 0 then bnd (x2 + 0) (fun x2_4 => bnd (x3 + 1) (fun x3_5 => rec (x2_4, x3_5))) else chk (inB x3 10) ((if (G 6 x3.toNatClampNeg) = x1 then bnd (x2 + 1) (fun x2_10 => bnd (x3 + 1) (fun x3_11 => rec (x2_10, x3_11))) else bnd (x2 + 0) (fun x2_8 => bnd (x3 + 1) (fun x3_9 => rec (x2_8, x3_9))))))))
noncomputable def f_X12_ofVoice (G : Mem) (x1 : Int32) : Option (Int32) := iter (q_X12_ofVoice_4 G x1) fuel (0, 0)
theorem kyX12_ofVoice : Ky yX12_ofVoice cX12_ofVoice 4 (some FieldType.int) 1 := ⟨u6_47, u1_15, by decide, by decide, by decide, by decide +kernel⟩
set_option maxHeartbeats 4000000 in
set_option maxRecDepth 100000 in
theorem c_X12_ofVoice (l : Launch) (D : va_G) (K : List Nat) (sh : Nat → Ent) (ad : Nat → Nat) (cy : Nat → ClassId) (X : va_W) (B : State → Prop) (hcl : Bcl (AS K ad X) B) (hE : ∀ q ∈ shM, q.1 ∈ K ∧ sh q.1 = q.2) (G : Mem) (L : MemL) (O : MemO) (x1 : Int32)  {vz : Int32} (hf : f_X12_ofVoice G x1 = some vz) : Met l yX12_ofVoice (wsU yX12_ofVoice cX12_ofVoice 4 (some FieldType.int)) (rmX 1 0 0) (va_Pc [.ref (ad 0), .int x1] (PS D K sh ad cy X B G L O)) (QI (AS K ad X) (PH D K sh ad cy X G L O) vz) 0 0 (AS K ad X) := by
  refine s_met (by decide) (Nat.le_of_ble_eq_true rfl) ?_
  intro p e s m args below meth c ls H locs E hK hBs hnm hI hl
  have hl : lv_has ls 4 [(0, .ref (ad 0)), (1, .int x1)] := hl
  have E : Cx p s m args meth c RX12 cX12_ofVoice 4 (some FieldType.int) := E
  obtain ⟨hx, hb, hr, hml, hown, hu, hlocks⟩ := id E
  have B4 : ∀   (n : Nat) (x2 : Int32) (x3 : Int32) (H : Heap) (locs : List Loc) (ls : Array Slot), lv_has ls 4 [(0, .ref (ad 0)), (1, .int x1), (2, .int x2), (3, .int x3)] → IS D K sh ad cy X (AS K ad X) s.heap H locs G L O → iter (q_X12_ofVoice_4 G x1) n (x2, x3) = some vz → W p l e (rmX 1 0 0) s m args below meth c H locs 0 0 (MQ below (QI (AS K ad X) (PH D K sh ad cy X G L O) vz) args s 0 0 (AS K ad X)) (F0 m 4 ls []) := by
    intro n
    induction n with
    | zero => intro x2 x3 H locs ls hl hI hf; exact iter_0 hf
    | succ n ih =>
      intro x2 x3 H locs ls hl hI hf
      have hf : q_X12_ofVoice_4 G x1 (iter (q_X12_ofVoice_4 G x1) n) (x2, x3) = some vz := hf
      rw [q_X12_ofVoice_4] at hf
      refine lv_iload_n hx hb dX12_ofVoice_4 rfl (lv_at hl 3 rfl) ?_
      refine lv_aload_n hx hb dX12_ofVoice_5 rfl (lv_at hl 0 rfl) ?_
      refine s_get (v := .int (G 0 7)) hx hb hu inU12 hown hK hI (mE hE eM_0) rfl 7 (by decide) u4_195 (fun _ h => h) rfl rfl dX12_ofVoice_6 ?_
      refine lv_icmp_ge (tgt := 45) hx hb dX12_ofVoice_9 (by decide) (fun c1 => ?_) (fun c1 => ?_)
      · have hf := ite_t c1 hf
        refine lv_iload_n hx hb dX12_ofVoice_45 rfl (lv_at hl 2 rfl) ?_
        cases hf
        exact s_iret hx hb hr hI.2.2 hI.1 hlocks dX12_ofVoice_46
      · have hf := ite_f c1 hf
        refine lv_iload_n hx hb dX12_ofVoice_12 rfl (lv_at hl 2 rfl) ?_
        refine lv_aload_n hx hb dX12_ofVoice_13 rfl (lv_at hl 0 rfl) ?_
        refine s_get (v := .ref (ad 21)) hx hb hu inU12 hown hK hI (mE hE eM_0) rfl 34 (by decide) u4_222 (fun _ h => h) rfl rfl dX12_ofVoice_14 ?_
        refine lv_iload_n hx hb dX12_ofVoice_17 rfl (lv_at hl 3 rfl) ?_
        obtain ⟨h2, hf⟩ := chk_i hf
        refine s_zld hx hb hK hI (mE hE eM_21) (inB_i h2) dX12_ofVoice_18 ?_
        refine lv_if_eq (tgt := 36) hx hb dX12_ofVoice_19 (by decide) (fun c3 => ?_) (fun c3 => ?_)
        · have hf := ite_t c3 hf
          refine lv_iconst (v := 0) hx hb dX12_ofVoice_36 (by decide) ?_
          refine lv_iadd hx hb dX12_ofVoice_37 ?_
          obtain ⟨x2_4, ex2_4, hf⟩ := bnd_i hf
          refine s_nmI ex2_4 ?_
          refine lv_istore_n (lv' := [(2, .int x2_4), (0, .ref (ad 0)), (1, .int x1), (3, .int x3)]) hx hb dX12_ofVoice_38 rfl hl (by decide) rfl (fun ls hl => ?_)
          obtain ⟨x3_5, ex3_5, hf⟩ := bnd_i hf
          refine lv_iinc (v := x3_5) (lv' := [(3, .int x3_5), (2, .int x2_4), (0, .ref (ad 0)), (1, .int x1)]) hx hb dX12_ofVoice_39 hl (k := 3) rfl (by rw [ex3_5]; rfl) (by decide) rfl (fun ls hl => ?_)
          refine lv_goto (tgt := 4) hx hb dX12_ofVoice_42 (by decide) ?_
          exact ih x2_4 x3_5 H locs ls (lv_sub hl [2, 3, 1, 0] rfl) hI hf
        · have hf := ite_f c3 hf
          refine lv_aload_n hx hb dX12_ofVoice_22 rfl (lv_at hl 0 rfl) ?_
          refine s_get (v := .ref (ad 6)) hx hb hu inU12 hown hK hI (mE hE eM_0) rfl 9 (by decide) u4_197 (fun _ h => h) rfl rfl dX12_ofVoice_23 ?_
          refine lv_iload_n hx hb dX12_ofVoice_26 rfl (lv_at hl 3 rfl) ?_
          obtain ⟨h6, hf⟩ := chk_i hf
          refine s_ild hx hb hK hI (mE hE eM_6) (inB_i h6) dX12_ofVoice_27 ?_
          refine lv_iload_n hx hb dX12_ofVoice_28 rfl (lv_at hl 1 rfl) ?_
          refine lv_icmp_ne (tgt := 36) hx hb dX12_ofVoice_29 (by decide) (fun c7 => ?_) (fun c7 => ?_)
          · have hf := ite_f c7 hf
            refine lv_iconst (v := 0) hx hb dX12_ofVoice_36 (by decide) ?_
            refine lv_iadd hx hb dX12_ofVoice_37 ?_
            obtain ⟨x2_8, ex2_8, hf⟩ := bnd_i hf
            refine s_nmI ex2_8 ?_
            refine lv_istore_n (lv' := [(2, .int x2_8), (0, .ref (ad 0)), (1, .int x1), (3, .int x3)]) hx hb dX12_ofVoice_38 rfl hl (by decide) rfl (fun ls hl => ?_)
            obtain ⟨x3_9, ex3_9, hf⟩ := bnd_i hf
            refine lv_iinc (v := x3_9) (lv' := [(3, .int x3_9), (2, .int x2_8), (0, .ref (ad 0)), (1, .int x1)]) hx hb dX12_ofVoice_39 hl (k := 3) rfl (by rw [ex3_9]; rfl) (by decide) rfl (fun ls hl => ?_)
            refine lv_goto (tgt := 4) hx hb dX12_ofVoice_42 (by decide) ?_
            exact ih x2_8 x3_9 H locs ls (lv_sub hl [2, 3, 1, 0] rfl) hI hf
          · have hf := ite_t c7 hf
            refine lv_iconst (v := 1) hx hb dX12_ofVoice_32 (by decide) ?_
            refine lv_goto (tgt := 37) hx hb dX12_ofVoice_33 (by decide) ?_
            refine lv_iadd hx hb dX12_ofVoice_37 ?_
            obtain ⟨x2_10, ex2_10, hf⟩ := bnd_i hf
            refine s_nmI ex2_10 ?_
            refine lv_istore_n (lv' := [(2, .int x2_10), (0, .ref (ad 0)), (1, .int x1), (3, .int x3)]) hx hb dX12_ofVoice_38 rfl hl (by decide) rfl (fun ls hl => ?_)
            obtain ⟨x3_11, ex3_11, hf⟩ := bnd_i hf
            refine lv_iinc (v := x3_11) (lv' := [(3, .int x3_11), (2, .int x2_10), (0, .ref (ad 0)), (1, .int x1)]) hx hb dX12_ofVoice_39 hl (k := 3) rfl (by rw [ex3_11]; rfl) (by decide) rfl (fun ls hl => ?_)
            refine lv_goto (tgt := 4) hx hb dX12_ofVoice_42 (by decide) ?_
            exact ih x2_10 x3_11 H locs ls (lv_sub hl [2, 3, 1, 0] rfl) hI hf
  rw [f_X12_ofVoice] at hf
  refine lv_iconst (v := 0) hx hb dX12_ofVoice_0 (by decide) ?_
  refine lv_istore_n (lv' := [(2, .int 0), (0, .ref (ad 0)), (1, .int x1)]) hx hb dX12_ofVoice_1 rfl hl (by decide) rfl (fun ls hl => ?_)
  refine lv_iconst (v := 0) hx hb dX12_ofVoice_2 (by decide) ?_
  refine lv_istore_n (lv' := [(3, .int 0), (2, .int 0), (0, .ref (ad 0)), (1, .int x1)]) hx hb dX12_ofVoice_3 rfl hl (by decide) rfl (fun ls hl => ?_)
  exact B4   fuel 0 0 H locs ls (lv_sub hl [2, 3, 1, 0] rfl) hI hf
noncomputable def q_X12_sing_58 (x1 : Int32) (x2 : Int32)  (rec : (Mem × Int32 × Int32) → Option (Mem × Int32)) : (Mem × Int32 × Int32) → Option (Mem × Int32) := fun (G, x3, x4) => (if (G 0 7) ≤ x4 then some (G, x3) else chk (inB x4 10) ((if (G 21 x4.toNatClampNeg) = 0 then bnd (x4 + 1) (fun x4_12 => rec (G, x3, x4_12)) else bnd (x3 ||| (1 <<< (x4 &&& 31))) (fun x3_13 => bnd (x4 + 1) (fun x4_14 => rec (G, x3_13, x4_14))))))
noncomputable def q_X12_sing_36 (x1 : Int32) (x2 : Int32)  (rec : (Mem × Int32) → Option (Mem × Int32)) : (Mem × Int32) → Option (Mem × Int32) := fun (G, x3) => (if x2 < x3 then iter (q_X12_sing_58 x1 x2) fuel (G, 0, 0) else bndO (f_X12_go G x1 x3) (fun G15 => bnd (x3 + 1) (fun x3_17 => rec (G15, x3_17))))
noncomputable def f_X12_sing (G : Mem) (x1 : Int32) (x2 : Int32) : Option (Mem × Int32) := (if (f_X12_isWay x1) = 0 then some (G, (-2)) else (if (f_X12_isStep G x2) = 0 then some (G, (-2)) else bndO (f_X12_isMissing G x1) (fun v3 => (if v3 = 0 then bndO (f_X12_begin G) (fun G6 => iter (q_X12_sing_36 x1 x2) fuel (G6, 0)) else some (G, (-11))))))
theorem kyX12_sing : Ky yX12_sing cX12_sing 5 (some FieldType.int) 2 := ⟨u5_236, u1_15, by decide, by decide, by decide, by decide +kernel⟩
set_option maxHeartbeats 4000000 in
set_option maxRecDepth 100000 in
theorem c_X12_sing (l : Launch) (D : va_G) (K : List Nat) (sh : Nat → Ent) (ad : Nat → Nat) (cy : Nat → ClassId) (X : va_W) (B : State → Prop) (hcl : Bcl (AS K ad X) B) (hE : ∀ q ∈ shM, q.1 ∈ K ∧ sh q.1 = q.2) (G : Mem) (L : MemL) (O : MemO) (x1 : Int32) (x2 : Int32) {Gz : Mem} {vz : Int32} (hf : f_X12_sing G x1 x2 = some (Gz, vz)) : Met l yX12_sing (wsU yX12_sing cX12_sing 5 (some FieldType.int)) (rmX 5 0 0) (va_Pc [.ref (ad 0), .int x1, .int x2] (PS D K sh ad cy X B G L O)) (QI (AS K ad X) (PH D K sh ad cy X Gz L O) vz) 0 0 (AS K ad X) := by
  refine s_met (by decide) (Nat.le_of_ble_eq_true rfl) ?_
  intro p e s m args below meth c ls H locs E hK hBs hnm hI hl
  have hl : lv_has ls 5 [(0, .ref (ad 0)), (1, .int x1), (2, .int x2)] := hl
  have E : Cx p s m args meth c RX12 cX12_sing 5 (some FieldType.int) := E
  obtain ⟨hx, hb, hr, hml, hown, hu, hlocks⟩ := id E
  have B58 : ∀   (n : Nat) (G : Mem) (x3 : Int32) (x4 : Int32) (H : Heap) (locs : List Loc) (ls : Array Slot), lv_has ls 5 [(0, .ref (ad 0)), (3, .int x3), (4, .int x4)] → IS D K sh ad cy X (AS K ad X) s.heap H locs G L O → iter (q_X12_sing_58 x1 x2) n (G, x3, x4) = some (Gz, vz) → W p l e (rmX 5 0 0) s m args below meth c H locs 0 0 (MQ below (QI (AS K ad X) (PH D K sh ad cy X Gz L O) vz) args s 0 0 (AS K ad X)) (F0 m 58 ls []) := by
    intro n
    induction n with
    | zero => intro G x3 x4 H locs ls hl hI hf; exact iter_0 hf
    | succ n ih =>
      intro G x3 x4 H locs ls hl hI hf
      have hf : q_X12_sing_58 x1 x2 (iter (q_X12_sing_58 x1 x2) n) (G, x3, x4) = some (Gz, vz) := hf
      rw [q_X12_sing_58] at hf
      refine lv_iload hx hb dX12_sing_58 (lv_at hl 2 rfl) ?_
      refine lv_aload_n hx hb dX12_sing_60 rfl (lv_at hl 0 rfl) ?_
      refine s_get (v := .int (G 0 7)) hx hb hu inU12 hown hK hI (mE hE eM_0) rfl 7 (by decide) u4_195 (fun _ h => h) rfl rfl dX12_sing_61 ?_
      refine lv_icmp_ge (tgt := 90) hx hb dX12_sing_64 (by decide) (fun c9 => ?_) (fun c9 => ?_)
      · have hf := ite_t c9 hf
        refine lv_iload_n hx hb dX12_sing_90 rfl (lv_at hl 1 rfl) ?_
        cases hf
        exact s_iret hx hb hr hI.2.2 hI.1 hlocks dX12_sing_91
      · have hf := ite_f c9 hf
        refine lv_aload_n hx hb dX12_sing_67 rfl (lv_at hl 0 rfl) ?_
        refine s_get (v := .ref (ad 21)) hx hb hu inU12 hown hK hI (mE hE eM_0) rfl 34 (by decide) u4_222 (fun _ h => h) rfl rfl dX12_sing_68 ?_
        refine lv_iload hx hb dX12_sing_71 (lv_at hl 2 rfl) ?_
        obtain ⟨h10, hf⟩ := chk_i hf
        refine s_zld hx hb hK hI (mE hE eM_21) (inB_i h10) dX12_sing_73 ?_
        refine lv_if_eq (tgt := 84) hx hb dX12_sing_74 (by decide) (fun c11 => ?_) (fun c11 => ?_)
        · have hf := ite_t c11 hf
          obtain ⟨x4_12, ex4_12, hf⟩ := bnd_i hf
          refine lv_iinc (v := x4_12) (lv' := [(4, .int x4_12), (0, .ref (ad 0)), (3, .int x3)]) hx hb dX12_sing_84 hl (k := 2) rfl (by rw [ex4_12]; rfl) (by decide) rfl (fun ls hl => ?_)
          refine lv_goto (tgt := 58) hx hb dX12_sing_87 (by decide) ?_
          exact ih G x3 x4_12 H locs ls (lv_sub hl [1, 2, 0] rfl) hI hf
        · have hf := ite_f c11 hf
          refine lv_iload_n hx hb dX12_sing_77 rfl (lv_at hl 1 rfl) ?_
          refine lv_iconst (v := 1) hx hb dX12_sing_78 (by decide) ?_
          refine lv_iload hx hb dX12_sing_79 (lv_at hl 2 rfl) ?_
          refine lv_ishl hx hb dX12_sing_81 ?_
          refine lv_ior hx hb dX12_sing_82 ?_
          obtain ⟨x3_13, ex3_13, hf⟩ := bnd_i hf
          refine s_nmI ex3_13 ?_
          refine lv_istore_n (lv' := [(3, .int x3_13), (0, .ref (ad 0)), (4, .int x4)]) hx hb dX12_sing_83 rfl hl (by decide) rfl (fun ls hl => ?_)
          obtain ⟨x4_14, ex4_14, hf⟩ := bnd_i hf
          refine lv_iinc (v := x4_14) (lv' := [(4, .int x4_14), (3, .int x3_13), (0, .ref (ad 0))]) hx hb dX12_sing_84 hl (k := 2) rfl (by rw [ex4_14]; rfl) (by decide) rfl (fun ls hl => ?_)
          refine lv_goto (tgt := 58) hx hb dX12_sing_87 (by decide) ?_
          exact ih G x3_13 x4_14 H locs ls (lv_sub hl [2, 1, 0] rfl) hI hf
  have B36 : ∀   (n : Nat) (G : Mem) (x3 : Int32) (H : Heap) (locs : List Loc) (ls : Array Slot), lv_has ls 5 [(0, .ref (ad 0)), (1, .int x1), (2, .int x2), (3, .int x3)] → IS D K sh ad cy X (AS K ad X) s.heap H locs G L O → iter (q_X12_sing_36 x1 x2) n (G, x3) = some (Gz, vz) → W p l e (rmX 5 0 0) s m args below meth c H locs 0 0 (MQ below (QI (AS K ad X) (PH D K sh ad cy X Gz L O) vz) args s 0 0 (AS K ad X)) (F0 m 36 ls []) := by
    intro n
    induction n with
    | zero => intro G x3 H locs ls hl hI hf; exact iter_0 hf
    | succ n ih =>
      intro G x3 H locs ls hl hI hf
      have hf : q_X12_sing_36 x1 x2 (iter (q_X12_sing_36 x1 x2) n) (G, x3) = some (Gz, vz) := hf
      rw [q_X12_sing_36] at hf
      refine lv_iload_n hx hb dX12_sing_36 rfl (lv_at hl 3 rfl) ?_
      refine lv_iload_n hx hb dX12_sing_37 rfl (lv_at hl 2 rfl) ?_
      refine lv_icmp_gt (tgt := 53) hx hb dX12_sing_38 (by decide) (fun c8 => ?_) (fun c8 => ?_)
      · have hf := ite_t c8 hf
        refine lv_iconst (v := 0) hx hb dX12_sing_53 (by decide) ?_
        refine lv_istore_n (lv' := [(3, .int 0), (0, .ref (ad 0)), (1, .int x1), (2, .int x2)]) hx hb dX12_sing_54 rfl hl (by decide) rfl (fun ls hl => ?_)
        refine lv_iconst (v := 0) hx hb dX12_sing_55 (by decide) ?_
        refine lv_istore (lv' := [(4, .int 0), (3, .int 0), (0, .ref (ad 0)), (1, .int x1), (2, .int x2)]) hx hb dX12_sing_56 hl (by decide) rfl (fun ls hl => ?_)
        exact B58   fuel G 0 0 H locs ls (lv_sub hl [2, 1, 0] rfl) hI hf
      · have hf := ite_f c8 hf
        refine lv_aload_n hx hb dX12_sing_41 rfl (lv_at hl 0 rfl) ?_
        refine lv_iload_n hx hb dX12_sing_42 rfl (lv_at hl 1 rfl) ?_
        refine lv_iload_n hx hb dX12_sing_43 rfl (lv_at hl 3 rfl) ?_
        obtain ⟨G15, h16, hf⟩ := bndO_i hf
        refine s_afV hI (s_runV (rest := []) (As := [.int x1, .int x3]) (np := 2) E hK hI (s_B hcl hBs hI) hcl.2 (mE hE eM_0) rfl (c_X12_go l D K sh ad cy X B hcl hE G L O x1 x3 h16) kyX12_go u6_13 u6_15 up_47 (by decide) rfl hl.1 rfl (Nat.le_of_ble_eq_true rfl) ⟨Nat.zero_le _, Nat.zero_le _⟩ dX12_sing_44) (fun H locs hI => ?_)
        obtain ⟨x3_17, ex3_17, hf⟩ := bnd_i hf
        refine lv_iinc (v := x3_17) (lv' := [(3, .int x3_17), (0, .ref (ad 0)), (1, .int x1), (2, .int x2)]) hx hb dX12_sing_47 hl (k := 3) rfl (by rw [ex3_17]; rfl) (by decide) rfl (fun ls hl => ?_)
        refine lv_goto (tgt := 36) hx hb dX12_sing_50 (by decide) ?_
        exact ih G15 x3_17 H locs ls (lv_sub hl [1, 2, 3, 0] rfl) hI hf
  rw [f_X12_sing] at hf
  refine lv_aload_n hx hb dX12_sing_0 rfl (lv_at hl 0 rfl) ?_
  refine lv_iload_n hx hb dX12_sing_1 rfl (lv_at hl 1 rfl) ?_
  refine s_afI hI (s_runV (rest := []) (As := [.int x1]) (np := 1) E hK hI (s_B hcl hBs hI) hcl.2 (mE hE eM_0) rfl (c_X12_isWay l D K sh ad cy X B hcl hE G L O x1 rfl) kyX12_isWay u5_237 u5_239 up_43 (by decide) rfl hl.1 rfl (Nat.le_of_ble_eq_true rfl) ⟨Nat.zero_le _, Nat.zero_le _⟩ dX12_sing_2) (fun H locs hI => ?_)
  refine lv_if_eq (tgt := 16) hx hb dX12_sing_5 (by decide) (fun c1 => ?_) (fun c1 => ?_)
  · have hf := ite_t c1 hf
    refine lv_bipush (v := (-2)) hx hb dX12_sing_16 (by decide) ?_
    cases hf
    exact s_iret hx hb hr hI.2.2 hI.1 hlocks dX12_sing_18
  · have hf := ite_f c1 hf
    refine lv_aload_n hx hb dX12_sing_8 rfl (lv_at hl 0 rfl) ?_
    refine lv_iload_n hx hb dX12_sing_9 rfl (lv_at hl 2 rfl) ?_
    refine s_afI hI (s_runV (rest := []) (As := [.int x2]) (np := 1) E hK hI (s_B hcl hBs hI) hcl.2 (mE hE eM_0) rfl (c_X12_isStep l D K sh ad cy X B hcl hE G L O x2 rfl) kyX12_isStep u6_1 u6_3 up_44 (by decide) rfl hl.1 rfl (Nat.le_of_ble_eq_true rfl) ⟨Nat.zero_le _, Nat.zero_le _⟩ dX12_sing_10) (fun H locs hI => ?_)
    refine lv_if_ne (tgt := 19) hx hb dX12_sing_13 (by decide) (fun c2 => ?_) (fun c2 => ?_)
    · have hf := ite_f c2 hf
      refine lv_aload_n hx hb dX12_sing_19 rfl (lv_at hl 0 rfl) ?_
      refine lv_iload_n hx hb dX12_sing_20 rfl (lv_at hl 1 rfl) ?_
      obtain ⟨v3, h4, hf⟩ := bndO_i hf
      refine s_afI hI (s_runV (rest := []) (As := [.int x1]) (np := 1) E hK hI (s_B hcl hBs hI) hcl.2 (mE hE eM_0) rfl (c_X12_isMissing l D K sh ad cy X B hcl hE G L O x1 h4) kyX12_isMissing u6_5 u6_7 up_45 (by decide) rfl hl.1 rfl (Nat.le_of_ble_eq_true rfl) ⟨Nat.zero_le _, Nat.zero_le _⟩ dX12_sing_21) (fun H locs hI => ?_)
      refine lv_if_eq (tgt := 30) hx hb dX12_sing_24 (by decide) (fun c5 => ?_) (fun c5 => ?_)
      · have hf := ite_t c5 hf
        refine lv_aload_n hx hb dX12_sing_30 rfl (lv_at hl 0 rfl) ?_
        obtain ⟨G6, h7, hf⟩ := bndO_i hf
        refine s_afV hI (s_runV (rest := []) (As := []) (np := 0) E hK hI (s_B hcl hBs hI) hcl.2 (mE hE eM_0) rfl (c_X12_begin l D K sh ad cy X B hcl hE G L O  h7) kyX12_begin u6_9 u6_11 up_46 (by decide) rfl hl.1 rfl (Nat.le_of_ble_eq_true rfl) ⟨Nat.zero_le _, Nat.zero_le _⟩ dX12_sing_31) (fun H locs hI => ?_)
        refine lv_iconst (v := 0) hx hb dX12_sing_34 (by decide) ?_
        refine lv_istore_n (lv' := [(3, .int 0), (0, .ref (ad 0)), (1, .int x1), (2, .int x2)]) hx hb dX12_sing_35 rfl hl (by decide) rfl (fun ls hl => ?_)
        exact B36   fuel G6 0 H locs ls (lv_sub hl [1, 2, 3, 0] rfl) hI hf
      · have hf := ite_f c5 hf
        refine lv_bipush (v := (-11)) hx hb dX12_sing_27 (by decide) ?_
        cases hf
        exact s_iret hx hb hr hI.2.2 hI.1 hlocks dX12_sing_29
    · have hf := ite_t c2 hf
      refine lv_bipush (v := (-2)) hx hb dX12_sing_16 (by decide) ?_
      cases hf
      exact s_iret hx hb hr hI.2.2 hI.1 hlocks dX12_sing_18
noncomputable def q_X12_of_46 (x1 : Int32) (x2 : Int32) (x3 : Int32)  (rec : (Mem × Int32) → Option (Mem × Int32)) : (Mem × Int32) → Option (Mem × Int32) := fun (G, x4) => (if x2 < x4 then bndO (f_X12_ofVoice G x3) (fun v10 => some (G, v10)) else bndO (f_X12_go G x1 x4) (fun G12 => bnd (x4 + 1) (fun x4_14 => rec (G12, x4_14))))
noncomputable def f_X12_of (G : Mem) (x1 : Int32) (x2 : Int32) (x3 : Int32) : Option (Mem × Int32) := (if (f_X12_isWay x1) = 0 then some (G, (-2)) else (if (f_X12_isStep G x2) = 0 then some (G, (-2)) else (if (f_X12_in x3 0 3) = 0 then some (G, (-2)) else bndO (f_X12_isMissing G x1) (fun v4 => (if v4 = 0 then bndO (f_X12_begin G) (fun G7 => iter (q_X12_of_46 x1 x2 x3) fuel (G7, 0)) else some (G, (-11)))))))
theorem kyX12_of : Ky yX12_of cX12_of 5 (some FieldType.int) 3 := ⟨u6_43, u1_15, by decide, by decide, by decide, by decide +kernel⟩
set_option maxHeartbeats 4000000 in
set_option maxRecDepth 100000 in
theorem c_X12_of (l : Launch) (D : va_G) (K : List Nat) (sh : Nat → Ent) (ad : Nat → Nat) (cy : Nat → ClassId) (X : va_W) (B : State → Prop) (hcl : Bcl (AS K ad X) B) (hE : ∀ q ∈ shM, q.1 ∈ K ∧ sh q.1 = q.2) (G : Mem) (L : MemL) (O : MemO) (x1 : Int32) (x2 : Int32) (x3 : Int32) {Gz : Mem} {vz : Int32} (hf : f_X12_of G x1 x2 x3 = some (Gz, vz)) : Met l yX12_of (wsU yX12_of cX12_of 5 (some FieldType.int)) (rmX 5 0 0) (va_Pc [.ref (ad 0), .int x1, .int x2, .int x3] (PS D K sh ad cy X B G L O)) (QI (AS K ad X) (PH D K sh ad cy X Gz L O) vz) 0 0 (AS K ad X) := by
  refine s_met (by decide) (Nat.le_of_ble_eq_true rfl) ?_
  intro p e s m args below meth c ls H locs E hK hBs hnm hI hl
  have hl : lv_has ls 5 [(0, .ref (ad 0)), (1, .int x1), (2, .int x2), (3, .int x3)] := hl
  have E : Cx p s m args meth c RX12 cX12_of 5 (some FieldType.int) := E
  obtain ⟨hx, hb, hr, hml, hown, hu, hlocks⟩ := id E
  have B46 : ∀   (n : Nat) (G : Mem) (x4 : Int32) (H : Heap) (locs : List Loc) (ls : Array Slot), lv_has ls 5 [(0, .ref (ad 0)), (1, .int x1), (2, .int x2), (3, .int x3), (4, .int x4)] → IS D K sh ad cy X (AS K ad X) s.heap H locs G L O → iter (q_X12_of_46 x1 x2 x3) n (G, x4) = some (Gz, vz) → W p l e (rmX 5 0 0) s m args below meth c H locs 0 0 (MQ below (QI (AS K ad X) (PH D K sh ad cy X Gz L O) vz) args s 0 0 (AS K ad X)) (F0 m 46 ls []) := by
    intro n
    induction n with
    | zero => intro G x4 H locs ls hl hI hf; exact iter_0 hf
    | succ n ih =>
      intro G x4 H locs ls hl hI hf
      have hf : q_X12_of_46 x1 x2 x3 (iter (q_X12_of_46 x1 x2 x3) n) (G, x4) = some (Gz, vz) := hf
      rw [q_X12_of_46] at hf
      refine lv_iload hx hb dX12_of_46 (lv_at hl 4 rfl) ?_
      refine lv_iload_n hx hb dX12_of_48 rfl (lv_at hl 2 rfl) ?_
      refine lv_icmp_gt (tgt := 65) hx hb dX12_of_49 (by decide) (fun c9 => ?_) (fun c9 => ?_)
      · have hf := ite_t c9 hf
        refine lv_aload_n hx hb dX12_of_65 rfl (lv_at hl 0 rfl) ?_
        refine lv_iload_n hx hb dX12_of_66 rfl (lv_at hl 3 rfl) ?_
        obtain ⟨v10, h11, hf⟩ := bndO_i hf
        refine s_afI hI (s_runV (rest := []) (As := [.int x3]) (np := 1) E hK hI (s_B hcl hBs hI) hcl.2 (mE hE eM_0) rfl (c_X12_ofVoice l D K sh ad cy X B hcl hE G L O x3 h11) kyX12_ofVoice u6_44 u6_46 up_53 (by decide) rfl hl.1 rfl (Nat.le_of_ble_eq_true rfl) ⟨Nat.zero_le _, Nat.zero_le _⟩ dX12_of_67) (fun H locs hI => ?_)
        cases hf
        exact s_iret hx hb hr hI.2.2 hI.1 hlocks dX12_of_70
      · have hf := ite_f c9 hf
        refine lv_aload_n hx hb dX12_of_52 rfl (lv_at hl 0 rfl) ?_
        refine lv_iload_n hx hb dX12_of_53 rfl (lv_at hl 1 rfl) ?_
        refine lv_iload hx hb dX12_of_54 (lv_at hl 4 rfl) ?_
        obtain ⟨G12, h13, hf⟩ := bndO_i hf
        refine s_afV hI (s_runV (rest := []) (As := [.int x1, .int x4]) (np := 2) E hK hI (s_B hcl hBs hI) hcl.2 (mE hE eM_0) rfl (c_X12_go l D K sh ad cy X B hcl hE G L O x1 x4 h13) kyX12_go u6_13 u6_15 up_47 (by decide) rfl hl.1 rfl (Nat.le_of_ble_eq_true rfl) ⟨Nat.zero_le _, Nat.zero_le _⟩ dX12_of_56) (fun H locs hI => ?_)
        obtain ⟨x4_14, ex4_14, hf⟩ := bnd_i hf
        refine lv_iinc (v := x4_14) (lv' := [(4, .int x4_14), (0, .ref (ad 0)), (1, .int x1), (2, .int x2), (3, .int x3)]) hx hb dX12_of_59 hl (k := 4) rfl (by rw [ex4_14]; rfl) (by decide) rfl (fun ls hl => ?_)
        refine lv_goto (tgt := 46) hx hb dX12_of_62 (by decide) ?_
        exact ih G12 x4_14 H locs ls (lv_sub hl [1, 2, 3, 4, 0] rfl) hI hf
  rw [f_X12_of] at hf
  refine lv_aload_n hx hb dX12_of_0 rfl (lv_at hl 0 rfl) ?_
  refine lv_iload_n hx hb dX12_of_1 rfl (lv_at hl 1 rfl) ?_
  refine s_afI hI (s_runV (rest := []) (As := [.int x1]) (np := 1) E hK hI (s_B hcl hBs hI) hcl.2 (mE hE eM_0) rfl (c_X12_isWay l D K sh ad cy X B hcl hE G L O x1 rfl) kyX12_isWay u5_237 u5_239 up_43 (by decide) rfl hl.1 rfl (Nat.le_of_ble_eq_true rfl) ⟨Nat.zero_le _, Nat.zero_le _⟩ dX12_of_2) (fun H locs hI => ?_)
  refine lv_if_eq (tgt := 25) hx hb dX12_of_5 (by decide) (fun c1 => ?_) (fun c1 => ?_)
  · have hf := ite_t c1 hf
    refine lv_bipush (v := (-2)) hx hb dX12_of_25 (by decide) ?_
    cases hf
    exact s_iret hx hb hr hI.2.2 hI.1 hlocks dX12_of_27
  · have hf := ite_f c1 hf
    refine lv_aload_n hx hb dX12_of_8 rfl (lv_at hl 0 rfl) ?_
    refine lv_iload_n hx hb dX12_of_9 rfl (lv_at hl 2 rfl) ?_
    refine s_afI hI (s_runV (rest := []) (As := [.int x2]) (np := 1) E hK hI (s_B hcl hBs hI) hcl.2 (mE hE eM_0) rfl (c_X12_isStep l D K sh ad cy X B hcl hE G L O x2 rfl) kyX12_isStep u6_1 u6_3 up_44 (by decide) rfl hl.1 rfl (Nat.le_of_ble_eq_true rfl) ⟨Nat.zero_le _, Nat.zero_le _⟩ dX12_of_10) (fun H locs hI => ?_)
    refine lv_if_eq (tgt := 25) hx hb dX12_of_13 (by decide) (fun c2 => ?_) (fun c2 => ?_)
    · have hf := ite_t c2 hf
      refine lv_bipush (v := (-2)) hx hb dX12_of_25 (by decide) ?_
      cases hf
      exact s_iret hx hb hr hI.2.2 hI.1 hlocks dX12_of_27
    · have hf := ite_f c2 hf
      refine lv_iload_n hx hb dX12_of_16 rfl (lv_at hl 3 rfl) ?_
      refine lv_iconst (v := 0) hx hb dX12_of_17 (by decide) ?_
      refine lv_iconst (v := 3) hx hb dX12_of_18 (by decide) ?_
      refine s_cSP (np := 3) (rest := []) E (c_X12_in l x3 0 3 rfl) kyX12_in u5_128 u5_129 (by decide) rfl hl.1 rfl (Nat.le_of_ble_eq_true rfl) ⟨Nat.zero_le _, Nat.zero_le _⟩ dX12_of_19 ?_
      refine lv_if_ne (tgt := 28) hx hb dX12_of_22 (by decide) (fun c3 => ?_) (fun c3 => ?_)
      · have hf := ite_f c3 hf
        refine lv_aload_n hx hb dX12_of_28 rfl (lv_at hl 0 rfl) ?_
        refine lv_iload_n hx hb dX12_of_29 rfl (lv_at hl 1 rfl) ?_
        obtain ⟨v4, h5, hf⟩ := bndO_i hf
        refine s_afI hI (s_runV (rest := []) (As := [.int x1]) (np := 1) E hK hI (s_B hcl hBs hI) hcl.2 (mE hE eM_0) rfl (c_X12_isMissing l D K sh ad cy X B hcl hE G L O x1 h5) kyX12_isMissing u6_5 u6_7 up_45 (by decide) rfl hl.1 rfl (Nat.le_of_ble_eq_true rfl) ⟨Nat.zero_le _, Nat.zero_le _⟩ dX12_of_30) (fun H locs hI => ?_)
        refine lv_if_eq (tgt := 39) hx hb dX12_of_33 (by decide) (fun c6 => ?_) (fun c6 => ?_)
        · have hf := ite_t c6 hf
          refine lv_aload_n hx hb dX12_of_39 rfl (lv_at hl 0 rfl) ?_
          obtain ⟨G7, h8, hf⟩ := bndO_i hf
          refine s_afV hI (s_runV (rest := []) (As := []) (np := 0) E hK hI (s_B hcl hBs hI) hcl.2 (mE hE eM_0) rfl (c_X12_begin l D K sh ad cy X B hcl hE G L O  h8) kyX12_begin u6_9 u6_11 up_46 (by decide) rfl hl.1 rfl (Nat.le_of_ble_eq_true rfl) ⟨Nat.zero_le _, Nat.zero_le _⟩ dX12_of_40) (fun H locs hI => ?_)
          refine lv_iconst (v := 0) hx hb dX12_of_43 (by decide) ?_
          refine lv_istore (lv' := [(4, .int 0), (0, .ref (ad 0)), (1, .int x1), (2, .int x2), (3, .int x3)]) hx hb dX12_of_44 hl (by decide) rfl (fun ls hl => ?_)
          exact B46   fuel G7 0 H locs ls (lv_sub hl [1, 2, 3, 4, 0] rfl) hI hf
        · have hf := ite_f c6 hf
          refine lv_bipush (v := (-11)) hx hb dX12_of_36 (by decide) ?_
          cases hf
          exact s_iret hx hb hr hI.2.2 hI.1 hlocks dX12_of_38
      · have hf := ite_t c3 hf
        refine lv_bipush (v := (-2)) hx hb dX12_of_25 (by decide) ?_
        cases hf
        exact s_iret hx hb hr hI.2.2 hI.1 hlocks dX12_of_27
noncomputable def q_X12_lookThin_2   (rec : (Mem × Int32) → Option (Mem)) : (Mem × Int32) → Option (Mem) := fun (G, x1) => (if 4 ≤ x1 then some G else bndO (f_X12_ofVoice G x1) (fun v2 => chk (inB x1 4) ((if (G 4 x1.toNatClampNeg) ≤ v2 then chk (inB x1 4) (bnd (up2 G 23 x1.toNatClampNeg 0) (fun G7 => bnd (x1 + 1) (fun x1_8 => rec (G7, x1_8)))) else chk (inB x1 4) (chk (inB x1 4) (bnd (up2 G 23 x1.toNatClampNeg ((G 23 x1.toNatClampNeg) + 1)) (fun G11 => bnd (x1 + 1) (fun x1_12 => rec (G11, x1_12)))))))))
noncomputable def f_X12_lookThin (G : Mem)  : Option (Mem) := iter (q_X12_lookThin_2) fuel (G, 0)
theorem kyX12_lookThin : Ky yX12_lookThin cX12_lookThin 2 none 0 := ⟨u6_59, u1_15, by decide, by decide, by decide, by decide +kernel⟩
set_option maxHeartbeats 4000000 in
set_option maxRecDepth 100000 in
theorem c_X12_lookThin (l : Launch) (D : va_G) (K : List Nat) (sh : Nat → Ent) (ad : Nat → Nat) (cy : Nat → ClassId) (X : va_W) (B : State → Prop) (hcl : Bcl (AS K ad X) B) (hE : ∀ q ∈ shM, q.1 ∈ K ∧ sh q.1 = q.2) (G : Mem) (L : MemL) (O : MemO)  {Gz : Mem} (hf : f_X12_lookThin G = some Gz) : Met l yX12_lookThin (wsU yX12_lookThin cX12_lookThin 2 none) (rmX 2 0 0) (va_Pc [.ref (ad 0)] (PS D K sh ad cy X B G L O)) (QV (AS K ad X) (PH D K sh ad cy X Gz L O)) 0 0 (AS K ad X) := by
  refine s_met (by decide) (Nat.le_of_ble_eq_true rfl) ?_
  intro p e s m args below meth c ls H locs E hK hBs hnm hI hl
  have hl : lv_has ls 2 [(0, .ref (ad 0))] := hl
  have E : Cx p s m args meth c RX12 cX12_lookThin 2 none := E
  obtain ⟨hx, hb, hr, hml, hown, hu, hlocks⟩ := id E
  have B2 : ∀   (n : Nat) (G : Mem) (x1 : Int32) (H : Heap) (locs : List Loc) (ls : Array Slot), lv_has ls 2 [(0, .ref (ad 0)), (1, .int x1)] → IS D K sh ad cy X (AS K ad X) s.heap H locs G L O → iter (q_X12_lookThin_2) n (G, x1) = some Gz → W p l e (rmX 2 0 0) s m args below meth c H locs 0 0 (MQ below (QV (AS K ad X) (PH D K sh ad cy X Gz L O)) args s 0 0 (AS K ad X)) (F0 m 2 ls []) := by
    intro n
    induction n with
    | zero => intro G x1 H locs ls hl hI hf; exact iter_0 hf
    | succ n ih =>
      intro G x1 H locs ls hl hI hf
      have hf : q_X12_lookThin_2 (iter (q_X12_lookThin_2) n) (G, x1) = some Gz := hf
      rw [q_X12_lookThin_2] at hf
      refine lv_iload_n hx hb dX12_lookThin_2 rfl (lv_at hl 1 rfl) ?_
      refine lv_iconst (v := 4) hx hb dX12_lookThin_3 (by decide) ?_
      refine lv_icmp_ge (tgt := 45) hx hb dX12_lookThin_4 (by decide) (fun c1 => ?_) (fun c1 => ?_)
      · have hf := ite_t c1 hf
        cases hf
        exact s_vret hx hb hr hI.2.2 hI.1 hlocks dX12_lookThin_45
      · have hf := ite_f c1 hf
        refine lv_aload_n hx hb dX12_lookThin_7 rfl (lv_at hl 0 rfl) ?_
        refine s_get (v := .ref (ad 23)) hx hb hu inU12 hown hK hI (mE hE eM_0) rfl 41 (by decide) u4_229 (fun _ h => h) rfl rfl dX12_lookThin_8 ?_
        refine lv_iload_n hx hb dX12_lookThin_11 rfl (lv_at hl 1 rfl) ?_
        refine lv_aload_n hx hb dX12_lookThin_12 rfl (lv_at hl 0 rfl) ?_
        refine lv_iload_n hx hb dX12_lookThin_13 rfl (lv_at hl 1 rfl) ?_
        obtain ⟨v2, h3, hf⟩ := bndO_i hf
        refine s_afI hI (s_runV (rest := [.int x1, .ref (ad 23)]) (As := [.int x1]) (np := 1) E hK hI (s_B hcl hBs hI) hcl.2 (mE hE eM_0) rfl (c_X12_ofVoice l D K sh ad cy X B hcl hE G L O x1 h3) kyX12_ofVoice u6_44 u6_46 up_53 (by decide) rfl hl.1 rfl (Nat.le_of_ble_eq_true rfl) ⟨Nat.zero_le _, Nat.zero_le _⟩ dX12_lookThin_14) (fun H locs hI => ?_)
        refine lv_aload_n hx hb dX12_lookThin_17 rfl (lv_at hl 0 rfl) ?_
        refine s_get (v := .ref (ad 4)) hx hb hu inU12 hown hK hI (mE hE eM_0) rfl 6 (by decide) u4_194 (fun _ h => h) rfl rfl dX12_lookThin_18 ?_
        refine lv_iload_n hx hb dX12_lookThin_21 rfl (lv_at hl 1 rfl) ?_
        obtain ⟨h4, hf⟩ := chk_i hf
        refine s_ild hx hb hK hI (mE hE eM_4) (inB_i h4) dX12_lookThin_22 ?_
        refine lv_icmp_ge (tgt := 37) hx hb dX12_lookThin_23 (by decide) (fun c5 => ?_) (fun c5 => ?_)
        · have hf := ite_t c5 hf
          refine lv_iconst (v := 0) hx hb dX12_lookThin_37 (by decide) ?_
          obtain ⟨h6, hf⟩ := chk_i hf
          obtain ⟨G7, eG7, hf⟩ := bnd_i hf
          refine s_ist hx hb hK hI (mE hE eM_23) (inB_i h6) eG7 dX12_lookThin_38 (fun H locs hI => ?_)
          obtain ⟨x1_8, ex1_8, hf⟩ := bnd_i hf
          refine lv_iinc (v := x1_8) (lv' := [(1, .int x1_8), (0, .ref (ad 0))]) hx hb dX12_lookThin_39 hl (k := 1) rfl (by rw [ex1_8]; rfl) (by decide) rfl (fun ls hl => ?_)
          refine lv_goto (tgt := 2) hx hb dX12_lookThin_42 (by decide) ?_
          exact ih G7 x1_8 H locs ls (lv_sub hl [1, 0] rfl) hI hf
        · have hf := ite_f c5 hf
          refine lv_aload_n hx hb dX12_lookThin_26 rfl (lv_at hl 0 rfl) ?_
          refine s_get (v := .ref (ad 23)) hx hb hu inU12 hown hK hI (mE hE eM_0) rfl 41 (by decide) u4_229 (fun _ h => h) rfl rfl dX12_lookThin_27 ?_
          refine lv_iload_n hx hb dX12_lookThin_30 rfl (lv_at hl 1 rfl) ?_
          obtain ⟨h9, hf⟩ := chk_i hf
          refine s_ild hx hb hK hI (mE hE eM_23) (inB_i h9) dX12_lookThin_31 ?_
          refine lv_iconst (v := 1) hx hb dX12_lookThin_32 (by decide) ?_
          refine lv_iadd hx hb dX12_lookThin_33 ?_
          refine lv_goto (tgt := 38) hx hb dX12_lookThin_34 (by decide) ?_
          obtain ⟨h10, hf⟩ := chk_i hf
          obtain ⟨G11, eG11, hf⟩ := bnd_i hf
          refine s_ist hx hb hK hI (mE hE eM_23) (inB_i h10) eG11 dX12_lookThin_38 (fun H locs hI => ?_)
          obtain ⟨x1_12, ex1_12, hf⟩ := bnd_i hf
          refine lv_iinc (v := x1_12) (lv' := [(1, .int x1_12), (0, .ref (ad 0))]) hx hb dX12_lookThin_39 hl (k := 1) rfl (by rw [ex1_12]; rfl) (by decide) rfl (fun ls hl => ?_)
          refine lv_goto (tgt := 2) hx hb dX12_lookThin_42 (by decide) ?_
          exact ih G11 x1_12 H locs ls (lv_sub hl [1, 0] rfl) hI hf
  rw [f_X12_lookThin] at hf
  refine lv_iconst (v := 0) hx hb dX12_lookThin_0 (by decide) ?_
  refine lv_istore_n (lv' := [(1, .int 0), (0, .ref (ad 0))]) hx hb dX12_lookThin_1 rfl hl (by decide) rfl (fun ls hl => ?_)
  exact B2   fuel G 0 H locs ls (lv_sub hl [1, 0] rfl) hI hf
noncomputable def q_X12_beginThin_2   (rec : (Mem × Int32) → Option (Mem)) : (Mem × Int32) → Option (Mem) := fun (G, x1) => (if 4 ≤ x1 then some G else chk (inB x1 4) (bnd (up2 G 23 x1.toNatClampNeg 0) (fun G3 => bnd (x1 + 1) (fun x1_4 => rec (G3, x1_4)))))
noncomputable def f_X12_beginThin (G : Mem)  : Option (Mem) := iter (q_X12_beginThin_2) fuel (G, 0)
theorem kyX12_beginThin : Ky yX12_beginThin cX12_beginThin 2 none 0 := ⟨u6_55, u1_15, by decide, by decide, by decide, by decide +kernel⟩
set_option maxHeartbeats 4000000 in
set_option maxRecDepth 100000 in
theorem c_X12_beginThin (l : Launch) (D : va_G) (K : List Nat) (sh : Nat → Ent) (ad : Nat → Nat) (cy : Nat → ClassId) (X : va_W) (B : State → Prop) (hcl : Bcl (AS K ad X) B) (hE : ∀ q ∈ shM, q.1 ∈ K ∧ sh q.1 = q.2) (G : Mem) (L : MemL) (O : MemO)  {Gz : Mem} (hf : f_X12_beginThin G = some Gz) : Met l yX12_beginThin (wsU yX12_beginThin cX12_beginThin 2 none) (rmX 1 0 0) (va_Pc [.ref (ad 0)] (PS D K sh ad cy X B G L O)) (QV (AS K ad X) (PH D K sh ad cy X Gz L O)) 0 0 (AS K ad X) := by
  refine s_met (by decide) (Nat.le_of_ble_eq_true rfl) ?_
  intro p e s m args below meth c ls H locs E hK hBs hnm hI hl
  have hl : lv_has ls 2 [(0, .ref (ad 0))] := hl
  have E : Cx p s m args meth c RX12 cX12_beginThin 2 none := E
  obtain ⟨hx, hb, hr, hml, hown, hu, hlocks⟩ := id E
  have B2 : ∀   (n : Nat) (G : Mem) (x1 : Int32) (H : Heap) (locs : List Loc) (ls : Array Slot), lv_has ls 2 [(0, .ref (ad 0)), (1, .int x1)] → IS D K sh ad cy X (AS K ad X) s.heap H locs G L O → iter (q_X12_beginThin_2) n (G, x1) = some Gz → W p l e (rmX 1 0 0) s m args below meth c H locs 0 0 (MQ below (QV (AS K ad X) (PH D K sh ad cy X Gz L O)) args s 0 0 (AS K ad X)) (F0 m 2 ls []) := by
    intro n
    induction n with
    | zero => intro G x1 H locs ls hl hI hf; exact iter_0 hf
    | succ n ih =>
      intro G x1 H locs ls hl hI hf
      have hf : q_X12_beginThin_2 (iter (q_X12_beginThin_2) n) (G, x1) = some Gz := hf
      rw [q_X12_beginThin_2] at hf
      refine lv_iload_n hx hb dX12_beginThin_2 rfl (lv_at hl 1 rfl) ?_
      refine lv_iconst (v := 4) hx hb dX12_beginThin_3 (by decide) ?_
      refine lv_icmp_ge (tgt := 20) hx hb dX12_beginThin_4 (by decide) (fun c1 => ?_) (fun c1 => ?_)
      · have hf := ite_t c1 hf
        cases hf
        exact s_vret hx hb hr hI.2.2 hI.1 hlocks dX12_beginThin_20
      · have hf := ite_f c1 hf
        refine lv_aload_n hx hb dX12_beginThin_7 rfl (lv_at hl 0 rfl) ?_
        refine s_get (v := .ref (ad 23)) hx hb hu inU12 hown hK hI (mE hE eM_0) rfl 41 (by decide) u4_229 (fun _ h => h) rfl rfl dX12_beginThin_8 ?_
        refine lv_iload_n hx hb dX12_beginThin_11 rfl (lv_at hl 1 rfl) ?_
        refine lv_iconst (v := 0) hx hb dX12_beginThin_12 (by decide) ?_
        obtain ⟨h2, hf⟩ := chk_i hf
        obtain ⟨G3, eG3, hf⟩ := bnd_i hf
        refine s_ist hx hb hK hI (mE hE eM_23) (inB_i h2) eG3 dX12_beginThin_13 (fun H locs hI => ?_)
        obtain ⟨x1_4, ex1_4, hf⟩ := bnd_i hf
        refine lv_iinc (v := x1_4) (lv' := [(1, .int x1_4), (0, .ref (ad 0))]) hx hb dX12_beginThin_14 hl (k := 1) rfl (by rw [ex1_4]; rfl) (by decide) rfl (fun ls hl => ?_)
        refine lv_goto (tgt := 2) hx hb dX12_beginThin_17 (by decide) ?_
        exact ih G3 x1_4 H locs ls (lv_sub hl [1, 0] rfl) hI hf
  rw [f_X12_beginThin] at hf
  refine lv_iconst (v := 0) hx hb dX12_beginThin_0 (by decide) ?_
  refine lv_istore_n (lv' := [(1, .int 0), (0, .ref (ad 0))]) hx hb dX12_beginThin_1 rfl hl (by decide) rfl (fun ls hl => ?_)
  exact B2   fuel G 0 H locs ls (lv_sub hl [1, 0] rfl) hI hf
noncomputable def f_X12_isHeard (G : Mem) (x1 : Int32) : Option (Int32) := chk (inB x1 4) ((if (G 23 x1.toNatClampNeg) ≤ (G 0 2) then some 0 else some 1))
theorem kyX12_isHeard : Ky yX12_isHeard cX12_isHeard 2 (some FieldType.boolean) 1 := ⟨u6_67, u1_15, by decide, by decide, by decide, by decide +kernel⟩
set_option maxHeartbeats 4000000 in
set_option maxRecDepth 100000 in
theorem c_X12_isHeard (l : Launch) (D : va_G) (K : List Nat) (sh : Nat → Ent) (ad : Nat → Nat) (cy : Nat → ClassId) (X : va_W) (B : State → Prop) (hcl : Bcl (AS K ad X) B) (hE : ∀ q ∈ shM, q.1 ∈ K ∧ sh q.1 = q.2) (G : Mem) (L : MemL) (O : MemO) (x1 : Int32)  {vz : Int32} (hf : f_X12_isHeard G x1 = some vz) : Met l yX12_isHeard (wsU yX12_isHeard cX12_isHeard 2 (some FieldType.boolean)) (rmX 1 0 0) (va_Pc [.ref (ad 0), .int x1] (PS D K sh ad cy X B G L O)) (QI (AS K ad X) (PH D K sh ad cy X G L O) vz) 0 0 (AS K ad X) := by
  refine s_met (by decide) (Nat.le_of_ble_eq_true rfl) ?_
  intro p e s m args below meth c ls H locs E hK hBs hnm hI hl
  have hl : lv_has ls 2 [(0, .ref (ad 0)), (1, .int x1)] := hl
  have E : Cx p s m args meth c RX12 cX12_isHeard 2 (some FieldType.boolean) := E
  obtain ⟨hx, hb, hr, hml, hown, hu, hlocks⟩ := id E
  rw [f_X12_isHeard] at hf
  refine lv_aload_n hx hb dX12_isHeard_0 rfl (lv_at hl 0 rfl) ?_
  refine s_get (v := .ref (ad 23)) hx hb hu inU12 hown hK hI (mE hE eM_0) rfl 41 (by decide) u4_229 (fun _ h => h) rfl rfl dX12_isHeard_1 ?_
  refine lv_iload_n hx hb dX12_isHeard_4 rfl (lv_at hl 1 rfl) ?_
  obtain ⟨h1, hf⟩ := chk_i hf
  refine s_ild hx hb hK hI (mE hE eM_23) (inB_i h1) dX12_isHeard_5 ?_
  refine lv_aload_n hx hb dX12_isHeard_6 rfl (lv_at hl 0 rfl) ?_
  refine s_get (v := .int (G 0 2)) hx hb hu inU12 hown hK hI (mE hE eM_0) rfl 2 (by decide) u4_190 (fun _ h => h) rfl rfl dX12_isHeard_7 ?_
  refine lv_icmp_le (tgt := 17) hx hb dX12_isHeard_10 (by decide) (fun c2 => ?_) (fun c2 => ?_)
  · have hf := ite_t c2 hf
    refine lv_iconst (v := 0) hx hb dX12_isHeard_17 (by decide) ?_
    cases hf
    exact s_zret rfl hx hb hr hI.2.2 hI.1 hlocks dX12_isHeard_18
  · have hf := ite_f c2 hf
    refine lv_iconst (v := 1) hx hb dX12_isHeard_13 (by decide) ?_
    refine lv_goto (tgt := 18) hx hb dX12_isHeard_14 (by decide) ?_
    cases hf
    exact s_zret rfl hx hb hr hI.2.2 hI.1 hlocks dX12_isHeard_18
noncomputable def q_X12_wrongIn_142 (G : Mem) (x1 : Int32)  (rec : (Int32 × Int32) → Option (Int32)) : (Int32 × Int32) → Option (Int32) := fun (x2, x3) => (if (G 0 7) ≤ x3 then (if x2 = 0 then some 400 else (if x2 ≤ 3 then some (-1) else some 400)) else chk (inB x3 10) ((if (G 21 x3.toNatClampNeg) = 0 then bnd (x2 + 0) (fun x2_11 => bnd (x3 + 1) (fun x3_12 => rec (x2_11, x3_12))) else chk (inB x1 48) (bndO (f_X12_doesSay G x3 (G 1 x1.toNatClampNeg)) (fun v14 => (if v14 = 0 then bnd (x2 + 0) (fun x2_17 => bnd (x3 + 1) (fun x3_18 => rec (x2_17, x3_18))) else bnd (x2 + 1) (fun x2_19 => bnd (x3 + 1) (fun x3_20 => rec (x2_19, x3_20)))))))))
noncomputable def q_X12_wrongIn_102 (G : Mem) (x1 : Int32)  (rec : Int32 → Option (Int32)) : Int32 → Option (Int32) := fun x2 => (if 4 ≤ x2 then chk (inB x1 48) ((if (G 3 x1.toNatClampNeg) = 0 then some (-1) else iter (q_X12_wrongIn_142 G x1) fuel (0, 0))) else bndO (f_X12_isHeard G x2) (fun v21 => (if v21 = 0 then bnd (x2 + 1) (fun x2_24 => rec x2_24) else some (300 + x2))))
noncomputable def q_X12_wrongIn_58 (G : Mem) (x1 : Int32)  (rec : Int32 → Option (Int32)) : Int32 → Option (Int32) := fun x2 => (if (G 0 7) ≤ (x2 + 1) then iter (q_X12_wrongIn_102 G x1) fuel 0 else chk (inB x2 10) ((if (G 21 x2.toNatClampNeg) = 0 then chk (inB (x2 + 1) 10) ((if (G 21 (x2 + 1).toNatClampNeg) = 0 then some (200 + x2) else bnd (x2 + 1) (fun x2_30 => rec x2_30))) else bnd (x2 + 1) (fun x2_27 => rec x2_27))))
noncomputable def q_X12_wrongIn_2 (G : Mem) (x1 : Int32)  (rec : Int32 → Option (Int32)) : Int32 → Option (Int32) := fun x2 => (if (G 0 7) ≤ x2 then iter (q_X12_wrongIn_58 G x1) fuel 0 else chk (inB x2 10) ((if (G 21 x2.toNatClampNeg) = 0 then bnd (x2 + 1) (fun x2_33 => rec x2_33) else chk (inB x2 10) (chk (inB x2 10) (chk (inB x1 48) (bndO (f_X12_canHold G x2 (G 20 x2.toNatClampNeg) (G 1 x1.toNatClampNeg)) (fun v37 => (if (G 18 x2.toNatClampNeg) ≤ v37 then bnd (x2 + 1) (fun x2_40 => rec x2_40) else some (100 + x2)))))))))
noncomputable def f_X12_wrongIn (G : Mem) (x1 : Int32) : Option (Int32) := iter (q_X12_wrongIn_2 G x1) fuel 0
theorem kyX12_wrongIn : Ky yX12_wrongIn cX12_wrongIn 4 (some FieldType.int) 1 := ⟨u6_63, u1_15, by decide, by decide, by decide, by decide +kernel⟩
set_option maxHeartbeats 4000000 in
set_option maxRecDepth 100000 in
theorem c_X12_wrongIn (l : Launch) (D : va_G) (K : List Nat) (sh : Nat → Ent) (ad : Nat → Nat) (cy : Nat → ClassId) (X : va_W) (B : State → Prop) (hcl : Bcl (AS K ad X) B) (hE : ∀ q ∈ shM, q.1 ∈ K ∧ sh q.1 = q.2) (G : Mem) (L : MemL) (O : MemO) (x1 : Int32)  {vz : Int32} (hf : f_X12_wrongIn G x1 = some vz) : Met l yX12_wrongIn (wsU yX12_wrongIn cX12_wrongIn 4 (some FieldType.int)) (rmX 2 0 0) (va_Pc [.ref (ad 0), .int x1] (PS D K sh ad cy X B G L O)) (QI (AS K ad X) (PH D K sh ad cy X G L O) vz) 0 0 (AS K ad X) := by
  refine s_met (by decide) (Nat.le_of_ble_eq_true rfl) ?_
  intro p e s m args below meth c ls H locs E hK hBs hnm hI hl
  have hl : lv_has ls 4 [(0, .ref (ad 0)), (1, .int x1)] := hl
  have E : Cx p s m args meth c RX12 cX12_wrongIn 4 (some FieldType.int) := E
  obtain ⟨hx, hb, hr, hml, hown, hu, hlocks⟩ := id E
  have B142 : ∀   (n : Nat) (x2 : Int32) (x3 : Int32) (H : Heap) (locs : List Loc) (ls : Array Slot), lv_has ls 4 [(0, .ref (ad 0)), (1, .int x1), (2, .int x2), (3, .int x3)] → IS D K sh ad cy X (AS K ad X) s.heap H locs G L O → iter (q_X12_wrongIn_142 G x1) n (x2, x3) = some vz → W p l e (rmX 2 0 0) s m args below meth c H locs 0 0 (MQ below (QI (AS K ad X) (PH D K sh ad cy X G L O) vz) args s 0 0 (AS K ad X)) (F0 m 142 ls []) := by
    intro n
    induction n with
    | zero => intro x2 x3 H locs ls hl hI hf; exact iter_0 hf
    | succ n ih =>
      intro x2 x3 H locs ls hl hI hf
      have hf : q_X12_wrongIn_142 G x1 (iter (q_X12_wrongIn_142 G x1) n) (x2, x3) = some vz := hf
      rw [q_X12_wrongIn_142] at hf
      refine lv_iload_n hx hb dX12_wrongIn_142 rfl (lv_at hl 3 rfl) ?_
      refine lv_aload_n hx hb dX12_wrongIn_143 rfl (lv_at hl 0 rfl) ?_
      refine s_get (v := .int (G 0 7)) hx hb hu inU12 hown hK hI (mE hE eM_0) rfl 7 (by decide) u4_195 (fun _ h => h) rfl rfl dX12_wrongIn_144 ?_
      refine lv_icmp_ge (tgt := 187) hx hb dX12_wrongIn_147 (by decide) (fun c6 => ?_) (fun c6 => ?_)
      · have hf := ite_t c6 hf
        refine lv_iload_n hx hb dX12_wrongIn_187 rfl (lv_at hl 2 rfl) ?_
        refine lv_if_eq (tgt := 196) hx hb dX12_wrongIn_188 (by decide) (fun c7 => ?_) (fun c7 => ?_)
        · have hf := ite_t c7 hf
          refine lv_sipush (v := 400) hx hb dX12_wrongIn_196 (by decide) ?_
          refine lv_goto (tgt := 203) hx hb dX12_wrongIn_199 (by decide) ?_
          cases hf
          exact s_iret hx hb hr hI.2.2 hI.1 hlocks dX12_wrongIn_203
        · have hf := ite_f c7 hf
          refine lv_iload_n hx hb dX12_wrongIn_191 rfl (lv_at hl 2 rfl) ?_
          refine lv_iconst (v := 3) hx hb dX12_wrongIn_192 (by decide) ?_
          refine lv_icmp_le (tgt := 202) hx hb dX12_wrongIn_193 (by decide) (fun c8 => ?_) (fun c8 => ?_)
          · have hf := ite_t c8 hf
            refine lv_iconst (v := (-1)) hx hb dX12_wrongIn_202 (by decide) ?_
            cases hf
            exact s_iret hx hb hr hI.2.2 hI.1 hlocks dX12_wrongIn_203
          · have hf := ite_f c8 hf
            refine lv_sipush (v := 400) hx hb dX12_wrongIn_196 (by decide) ?_
            refine lv_goto (tgt := 203) hx hb dX12_wrongIn_199 (by decide) ?_
            cases hf
            exact s_iret hx hb hr hI.2.2 hI.1 hlocks dX12_wrongIn_203
      · have hf := ite_f c6 hf
        refine lv_iload_n hx hb dX12_wrongIn_150 rfl (lv_at hl 2 rfl) ?_
        refine lv_aload_n hx hb dX12_wrongIn_151 rfl (lv_at hl 0 rfl) ?_
        refine s_get (v := .ref (ad 21)) hx hb hu inU12 hown hK hI (mE hE eM_0) rfl 34 (by decide) u4_222 (fun _ h => h) rfl rfl dX12_wrongIn_152 ?_
        refine lv_iload_n hx hb dX12_wrongIn_155 rfl (lv_at hl 3 rfl) ?_
        obtain ⟨h9, hf⟩ := chk_i hf
        refine s_zld hx hb hK hI (mE hE eM_21) (inB_i h9) dX12_wrongIn_156 ?_
        refine lv_if_eq (tgt := 178) hx hb dX12_wrongIn_157 (by decide) (fun c10 => ?_) (fun c10 => ?_)
        · have hf := ite_t c10 hf
          refine lv_iconst (v := 0) hx hb dX12_wrongIn_178 (by decide) ?_
          refine lv_iadd hx hb dX12_wrongIn_179 ?_
          obtain ⟨x2_11, ex2_11, hf⟩ := bnd_i hf
          refine s_nmI ex2_11 ?_
          refine lv_istore_n (lv' := [(2, .int x2_11), (0, .ref (ad 0)), (1, .int x1), (3, .int x3)]) hx hb dX12_wrongIn_180 rfl hl (by decide) rfl (fun ls hl => ?_)
          obtain ⟨x3_12, ex3_12, hf⟩ := bnd_i hf
          refine lv_iinc (v := x3_12) (lv' := [(3, .int x3_12), (2, .int x2_11), (0, .ref (ad 0)), (1, .int x1)]) hx hb dX12_wrongIn_181 hl (k := 3) rfl (by rw [ex3_12]; rfl) (by decide) rfl (fun ls hl => ?_)
          refine lv_goto (tgt := 142) hx hb dX12_wrongIn_184 (by decide) ?_
          exact ih x2_11 x3_12 H locs ls (lv_sub hl [2, 3, 1, 0] rfl) hI hf
        · have hf := ite_f c10 hf
          refine lv_aload_n hx hb dX12_wrongIn_160 rfl (lv_at hl 0 rfl) ?_
          refine lv_iload_n hx hb dX12_wrongIn_161 rfl (lv_at hl 3 rfl) ?_
          refine lv_aload_n hx hb dX12_wrongIn_162 rfl (lv_at hl 0 rfl) ?_
          refine s_get (v := .ref (ad 1)) hx hb hu inU12 hown hK hI (mE hE eM_0) rfl 3 (by decide) u4_191 (fun _ h => h) rfl rfl dX12_wrongIn_163 ?_
          refine lv_iload_n hx hb dX12_wrongIn_166 rfl (lv_at hl 1 rfl) ?_
          obtain ⟨h13, hf⟩ := chk_i hf
          refine s_ild hx hb hK hI (mE hE eM_1) (inB_i h13) dX12_wrongIn_167 ?_
          obtain ⟨v14, h15, hf⟩ := bndO_i hf
          refine s_afI hI (s_runV (rest := [.int x2]) (As := [.int x3, .int (G 1 x1.toNatClampNeg)]) (np := 2) E hK hI (s_B hcl hBs hI) hcl.2 (mE hE eM_0) rfl (c_X12_doesSay l D K sh ad cy X B hcl hE G L O x3 (G 1 x1.toNatClampNeg) h15) kyX12_doesSay u5_155 u5_157 up_28 (by decide) rfl hl.1 rfl (Nat.le_of_ble_eq_true rfl) ⟨Nat.zero_le _, Nat.zero_le _⟩ dX12_wrongIn_168) (fun H locs hI => ?_)
          refine lv_if_eq (tgt := 178) hx hb dX12_wrongIn_171 (by decide) (fun c16 => ?_) (fun c16 => ?_)
          · have hf := ite_t c16 hf
            refine lv_iconst (v := 0) hx hb dX12_wrongIn_178 (by decide) ?_
            refine lv_iadd hx hb dX12_wrongIn_179 ?_
            obtain ⟨x2_17, ex2_17, hf⟩ := bnd_i hf
            refine s_nmI ex2_17 ?_
            refine lv_istore_n (lv' := [(2, .int x2_17), (0, .ref (ad 0)), (1, .int x1), (3, .int x3)]) hx hb dX12_wrongIn_180 rfl hl (by decide) rfl (fun ls hl => ?_)
            obtain ⟨x3_18, ex3_18, hf⟩ := bnd_i hf
            refine lv_iinc (v := x3_18) (lv' := [(3, .int x3_18), (2, .int x2_17), (0, .ref (ad 0)), (1, .int x1)]) hx hb dX12_wrongIn_181 hl (k := 3) rfl (by rw [ex3_18]; rfl) (by decide) rfl (fun ls hl => ?_)
            refine lv_goto (tgt := 142) hx hb dX12_wrongIn_184 (by decide) ?_
            exact ih x2_17 x3_18 H locs ls (lv_sub hl [2, 3, 1, 0] rfl) hI hf
          · have hf := ite_f c16 hf
            refine lv_iconst (v := 1) hx hb dX12_wrongIn_174 (by decide) ?_
            refine lv_goto (tgt := 179) hx hb dX12_wrongIn_175 (by decide) ?_
            refine lv_iadd hx hb dX12_wrongIn_179 ?_
            obtain ⟨x2_19, ex2_19, hf⟩ := bnd_i hf
            refine s_nmI ex2_19 ?_
            refine lv_istore_n (lv' := [(2, .int x2_19), (0, .ref (ad 0)), (1, .int x1), (3, .int x3)]) hx hb dX12_wrongIn_180 rfl hl (by decide) rfl (fun ls hl => ?_)
            obtain ⟨x3_20, ex3_20, hf⟩ := bnd_i hf
            refine lv_iinc (v := x3_20) (lv' := [(3, .int x3_20), (2, .int x2_19), (0, .ref (ad 0)), (1, .int x1)]) hx hb dX12_wrongIn_181 hl (k := 3) rfl (by rw [ex3_20]; rfl) (by decide) rfl (fun ls hl => ?_)
            refine lv_goto (tgt := 142) hx hb dX12_wrongIn_184 (by decide) ?_
            exact ih x2_19 x3_20 H locs ls (lv_sub hl [2, 3, 1, 0] rfl) hI hf
  have B102 : ∀   (n : Nat) (x2 : Int32) (H : Heap) (locs : List Loc) (ls : Array Slot), lv_has ls 4 [(0, .ref (ad 0)), (1, .int x1), (2, .int x2)] → IS D K sh ad cy X (AS K ad X) s.heap H locs G L O → iter (q_X12_wrongIn_102 G x1) n x2 = some vz → W p l e (rmX 2 0 0) s m args below meth c H locs 0 0 (MQ below (QI (AS K ad X) (PH D K sh ad cy X G L O) vz) args s 0 0 (AS K ad X)) (F0 m 102 ls []) := by
    intro n
    induction n with
    | zero => intro x2 H locs ls hl hI hf; exact iter_0 hf
    | succ n ih =>
      intro x2 H locs ls hl hI hf
      have hf : q_X12_wrongIn_102 G x1 (iter (q_X12_wrongIn_102 G x1) n) x2 = some vz := hf
      rw [q_X12_wrongIn_102] at hf
      refine lv_iload_n hx hb dX12_wrongIn_102 rfl (lv_at hl 2 rfl) ?_
      refine lv_iconst (v := 4) hx hb dX12_wrongIn_103 (by decide) ?_
      refine lv_icmp_ge (tgt := 127) hx hb dX12_wrongIn_104 (by decide) (fun c3 => ?_) (fun c3 => ?_)
      · have hf := ite_t c3 hf
        refine lv_aload_n hx hb dX12_wrongIn_127 rfl (lv_at hl 0 rfl) ?_
        refine s_get (v := .ref (ad 3)) hx hb hu inU12 hown hK hI (mE hE eM_0) rfl 5 (by decide) u4_193 (fun _ h => h) rfl rfl dX12_wrongIn_128 ?_
        refine lv_iload_n hx hb dX12_wrongIn_131 rfl (lv_at hl 1 rfl) ?_
        obtain ⟨h4, hf⟩ := chk_i hf
        refine s_ild hx hb hK hI (mE hE eM_3) (inB_i h4) dX12_wrongIn_132 ?_
        refine lv_if_ne (tgt := 138) hx hb dX12_wrongIn_133 (by decide) (fun c5 => ?_) (fun c5 => ?_)
        · have hf := ite_f c5 hf
          refine lv_iconst (v := 0) hx hb dX12_wrongIn_138 (by decide) ?_
          refine lv_istore_n (lv' := [(2, .int 0), (0, .ref (ad 0)), (1, .int x1)]) hx hb dX12_wrongIn_139 rfl hl (by decide) rfl (fun ls hl => ?_)
          refine lv_iconst (v := 0) hx hb dX12_wrongIn_140 (by decide) ?_
          refine lv_istore_n (lv' := [(3, .int 0), (2, .int 0), (0, .ref (ad 0)), (1, .int x1)]) hx hb dX12_wrongIn_141 rfl hl (by decide) rfl (fun ls hl => ?_)
          exact B142   fuel 0 0 H locs ls (lv_sub hl [2, 3, 1, 0] rfl) hI hf
        · have hf := ite_t c5 hf
          refine lv_iconst (v := (-1)) hx hb dX12_wrongIn_136 (by decide) ?_
          cases hf
          exact s_iret hx hb hr hI.2.2 hI.1 hlocks dX12_wrongIn_137
      · have hf := ite_f c3 hf
        refine lv_aload_n hx hb dX12_wrongIn_107 rfl (lv_at hl 0 rfl) ?_
        refine lv_iload_n hx hb dX12_wrongIn_108 rfl (lv_at hl 2 rfl) ?_
        obtain ⟨v21, h22, hf⟩ := bndO_i hf
        refine s_afI hI (s_runV (rest := []) (As := [.int x2]) (np := 1) E hK hI (s_B hcl hBs hI) hcl.2 (mE hE eM_0) rfl (c_X12_isHeard l D K sh ad cy X B hcl hE G L O x2 h22) kyX12_isHeard u6_64 u6_66 up_57 (by decide) rfl hl.1 rfl (Nat.le_of_ble_eq_true rfl) ⟨Nat.zero_le _, Nat.zero_le _⟩ dX12_wrongIn_109) (fun H locs hI => ?_)
        refine lv_if_eq (tgt := 121) hx hb dX12_wrongIn_112 (by decide) (fun c23 => ?_) (fun c23 => ?_)
        · have hf := ite_t c23 hf
          obtain ⟨x2_24, ex2_24, hf⟩ := bnd_i hf
          refine lv_iinc (v := x2_24) (lv' := [(2, .int x2_24), (0, .ref (ad 0)), (1, .int x1)]) hx hb dX12_wrongIn_121 hl (k := 2) rfl (by rw [ex2_24]; rfl) (by decide) rfl (fun ls hl => ?_)
          refine lv_goto (tgt := 102) hx hb dX12_wrongIn_124 (by decide) ?_
          exact ih x2_24 H locs ls (lv_sub hl [1, 2, 0] rfl) hI hf
        · have hf := ite_f c23 hf
          refine lv_sipush (v := 300) hx hb dX12_wrongIn_115 (by decide) ?_
          refine lv_iload_n hx hb dX12_wrongIn_118 rfl (lv_at hl 2 rfl) ?_
          refine lv_iadd hx hb dX12_wrongIn_119 ?_
          cases hf
          exact s_iret hx hb hr hI.2.2 hI.1 hlocks dX12_wrongIn_120
  have B58 : ∀   (n : Nat) (x2 : Int32) (H : Heap) (locs : List Loc) (ls : Array Slot), lv_has ls 4 [(0, .ref (ad 0)), (1, .int x1), (2, .int x2)] → IS D K sh ad cy X (AS K ad X) s.heap H locs G L O → iter (q_X12_wrongIn_58 G x1) n x2 = some vz → W p l e (rmX 2 0 0) s m args below meth c H locs 0 0 (MQ below (QI (AS K ad X) (PH D K sh ad cy X G L O) vz) args s 0 0 (AS K ad X)) (F0 m 58 ls []) := by
    intro n
    induction n with
    | zero => intro x2 H locs ls hl hI hf; exact iter_0 hf
    | succ n ih =>
      intro x2 H locs ls hl hI hf
      have hf : q_X12_wrongIn_58 G x1 (iter (q_X12_wrongIn_58 G x1) n) x2 = some vz := hf
      rw [q_X12_wrongIn_58] at hf
      refine lv_iload_n hx hb dX12_wrongIn_58 rfl (lv_at hl 2 rfl) ?_
      refine lv_iconst (v := 1) hx hb dX12_wrongIn_59 (by decide) ?_
      refine lv_iadd hx hb dX12_wrongIn_60 ?_
      refine lv_aload_n hx hb dX12_wrongIn_61 rfl (lv_at hl 0 rfl) ?_
      refine s_get (v := .int (G 0 7)) hx hb hu inU12 hown hK hI (mE hE eM_0) rfl 7 (by decide) u4_195 (fun _ h => h) rfl rfl dX12_wrongIn_62 ?_
      refine lv_icmp_ge (tgt := 100) hx hb dX12_wrongIn_65 (by decide) (fun c2 => ?_) (fun c2 => ?_)
      · have hf := ite_t c2 hf
        refine lv_iconst (v := 0) hx hb dX12_wrongIn_100 (by decide) ?_
        refine lv_istore_n (lv' := [(2, .int 0), (0, .ref (ad 0)), (1, .int x1)]) hx hb dX12_wrongIn_101 rfl hl (by decide) rfl (fun ls hl => ?_)
        exact B102   fuel 0 H locs ls (lv_sub hl [1, 2, 0] rfl) hI hf
      · have hf := ite_f c2 hf
        refine lv_aload_n hx hb dX12_wrongIn_68 rfl (lv_at hl 0 rfl) ?_
        refine s_get (v := .ref (ad 21)) hx hb hu inU12 hown hK hI (mE hE eM_0) rfl 34 (by decide) u4_222 (fun _ h => h) rfl rfl dX12_wrongIn_69 ?_
        refine lv_iload_n hx hb dX12_wrongIn_72 rfl (lv_at hl 2 rfl) ?_
        obtain ⟨h25, hf⟩ := chk_i hf
        refine s_zld hx hb hK hI (mE hE eM_21) (inB_i h25) dX12_wrongIn_73 ?_
        refine lv_if_ne (tgt := 94) hx hb dX12_wrongIn_74 (by decide) (fun c26 => ?_) (fun c26 => ?_)
        · have hf := ite_f c26 hf
          obtain ⟨x2_27, ex2_27, hf⟩ := bnd_i hf
          refine lv_iinc (v := x2_27) (lv' := [(2, .int x2_27), (0, .ref (ad 0)), (1, .int x1)]) hx hb dX12_wrongIn_94 hl (k := 2) rfl (by rw [ex2_27]; rfl) (by decide) rfl (fun ls hl => ?_)
          refine lv_goto (tgt := 58) hx hb dX12_wrongIn_97 (by decide) ?_
          exact ih x2_27 H locs ls (lv_sub hl [1, 2, 0] rfl) hI hf
        · have hf := ite_t c26 hf
          refine lv_aload_n hx hb dX12_wrongIn_77 rfl (lv_at hl 0 rfl) ?_
          refine s_get (v := .ref (ad 21)) hx hb hu inU12 hown hK hI (mE hE eM_0) rfl 34 (by decide) u4_222 (fun _ h => h) rfl rfl dX12_wrongIn_78 ?_
          refine lv_iload_n hx hb dX12_wrongIn_81 rfl (lv_at hl 2 rfl) ?_
          refine lv_iconst (v := 1) hx hb dX12_wrongIn_82 (by decide) ?_
          refine lv_iadd hx hb dX12_wrongIn_83 ?_
          obtain ⟨h28, hf⟩ := chk_i hf
          refine s_zld hx hb hK hI (mE hE eM_21) (inB_i h28) dX12_wrongIn_84 ?_
          refine lv_if_ne (tgt := 94) hx hb dX12_wrongIn_85 (by decide) (fun c29 => ?_) (fun c29 => ?_)
          · have hf := ite_f c29 hf
            obtain ⟨x2_30, ex2_30, hf⟩ := bnd_i hf
            refine lv_iinc (v := x2_30) (lv' := [(2, .int x2_30), (0, .ref (ad 0)), (1, .int x1)]) hx hb dX12_wrongIn_94 hl (k := 2) rfl (by rw [ex2_30]; rfl) (by decide) rfl (fun ls hl => ?_)
            refine lv_goto (tgt := 58) hx hb dX12_wrongIn_97 (by decide) ?_
            exact ih x2_30 H locs ls (lv_sub hl [1, 2, 0] rfl) hI hf
          · have hf := ite_t c29 hf
            refine lv_sipush (v := 200) hx hb dX12_wrongIn_88 (by decide) ?_
            refine lv_iload_n hx hb dX12_wrongIn_91 rfl (lv_at hl 2 rfl) ?_
            refine lv_iadd hx hb dX12_wrongIn_92 ?_
            cases hf
            exact s_iret hx hb hr hI.2.2 hI.1 hlocks dX12_wrongIn_93
  have B2 : ∀   (n : Nat) (x2 : Int32) (H : Heap) (locs : List Loc) (ls : Array Slot), lv_has ls 4 [(0, .ref (ad 0)), (1, .int x1), (2, .int x2)] → IS D K sh ad cy X (AS K ad X) s.heap H locs G L O → iter (q_X12_wrongIn_2 G x1) n x2 = some vz → W p l e (rmX 2 0 0) s m args below meth c H locs 0 0 (MQ below (QI (AS K ad X) (PH D K sh ad cy X G L O) vz) args s 0 0 (AS K ad X)) (F0 m 2 ls []) := by
    intro n
    induction n with
    | zero => intro x2 H locs ls hl hI hf; exact iter_0 hf
    | succ n ih =>
      intro x2 H locs ls hl hI hf
      have hf : q_X12_wrongIn_2 G x1 (iter (q_X12_wrongIn_2 G x1) n) x2 = some vz := hf
      rw [q_X12_wrongIn_2] at hf
      refine lv_iload_n hx hb dX12_wrongIn_2 rfl (lv_at hl 2 rfl) ?_
      refine lv_aload_n hx hb dX12_wrongIn_3 rfl (lv_at hl 0 rfl) ?_
      refine s_get (v := .int (G 0 7)) hx hb hu inU12 hown hK hI (mE hE eM_0) rfl 7 (by decide) u4_195 (fun _ h => h) rfl rfl dX12_wrongIn_4 ?_
      refine lv_icmp_ge (tgt := 56) hx hb dX12_wrongIn_7 (by decide) (fun c1 => ?_) (fun c1 => ?_)
      · have hf := ite_t c1 hf
        refine lv_iconst (v := 0) hx hb dX12_wrongIn_56 (by decide) ?_
        refine lv_istore_n (lv' := [(2, .int 0), (0, .ref (ad 0)), (1, .int x1)]) hx hb dX12_wrongIn_57 rfl hl (by decide) rfl (fun ls hl => ?_)
        exact B58   fuel 0 H locs ls (lv_sub hl [1, 2, 0] rfl) hI hf
      · have hf := ite_f c1 hf
        refine lv_aload_n hx hb dX12_wrongIn_10 rfl (lv_at hl 0 rfl) ?_
        refine s_get (v := .ref (ad 21)) hx hb hu inU12 hown hK hI (mE hE eM_0) rfl 34 (by decide) u4_222 (fun _ h => h) rfl rfl dX12_wrongIn_11 ?_
        refine lv_iload_n hx hb dX12_wrongIn_14 rfl (lv_at hl 2 rfl) ?_
        obtain ⟨h31, hf⟩ := chk_i hf
        refine s_zld hx hb hK hI (mE hE eM_21) (inB_i h31) dX12_wrongIn_15 ?_
        refine lv_if_eq (tgt := 50) hx hb dX12_wrongIn_16 (by decide) (fun c32 => ?_) (fun c32 => ?_)
        · have hf := ite_t c32 hf
          obtain ⟨x2_33, ex2_33, hf⟩ := bnd_i hf
          refine lv_iinc (v := x2_33) (lv' := [(2, .int x2_33), (0, .ref (ad 0)), (1, .int x1)]) hx hb dX12_wrongIn_50 hl (k := 2) rfl (by rw [ex2_33]; rfl) (by decide) rfl (fun ls hl => ?_)
          refine lv_goto (tgt := 2) hx hb dX12_wrongIn_53 (by decide) ?_
          exact ih x2_33 H locs ls (lv_sub hl [1, 2, 0] rfl) hI hf
        · have hf := ite_f c32 hf
          refine lv_aload_n hx hb dX12_wrongIn_19 rfl (lv_at hl 0 rfl) ?_
          refine s_get (v := .ref (ad 18)) hx hb hu inU12 hown hK hI (mE hE eM_0) rfl 31 (by decide) u4_219 (fun _ h => h) rfl rfl dX12_wrongIn_20 ?_
          refine lv_iload_n hx hb dX12_wrongIn_23 rfl (lv_at hl 2 rfl) ?_
          obtain ⟨h34, hf⟩ := chk_i hf
          refine s_ild hx hb hK hI (mE hE eM_18) (inB_i h34) dX12_wrongIn_24 ?_
          refine lv_aload_n hx hb dX12_wrongIn_25 rfl (lv_at hl 0 rfl) ?_
          refine lv_iload_n hx hb dX12_wrongIn_26 rfl (lv_at hl 2 rfl) ?_
          refine lv_aload_n hx hb dX12_wrongIn_27 rfl (lv_at hl 0 rfl) ?_
          refine s_get (v := .ref (ad 20)) hx hb hu inU12 hown hK hI (mE hE eM_0) rfl 33 (by decide) u4_221 (fun _ h => h) rfl rfl dX12_wrongIn_28 ?_
          refine lv_iload_n hx hb dX12_wrongIn_31 rfl (lv_at hl 2 rfl) ?_
          obtain ⟨h35, hf⟩ := chk_i hf
          refine s_ild hx hb hK hI (mE hE eM_20) (inB_i h35) dX12_wrongIn_32 ?_
          refine lv_aload_n hx hb dX12_wrongIn_33 rfl (lv_at hl 0 rfl) ?_
          refine s_get (v := .ref (ad 1)) hx hb hu inU12 hown hK hI (mE hE eM_0) rfl 3 (by decide) u4_191 (fun _ h => h) rfl rfl dX12_wrongIn_34 ?_
          refine lv_iload_n hx hb dX12_wrongIn_37 rfl (lv_at hl 1 rfl) ?_
          obtain ⟨h36, hf⟩ := chk_i hf
          refine s_ild hx hb hK hI (mE hE eM_1) (inB_i h36) dX12_wrongIn_38 ?_
          obtain ⟨v37, h38, hf⟩ := bndO_i hf
          refine s_afI hI (s_runV (rest := [.int (G 18 x2.toNatClampNeg)]) (As := [.int x2, .int (G 20 x2.toNatClampNeg), .int (G 1 x1.toNatClampNeg)]) (np := 3) E hK hI (s_B hcl hBs hI) hcl.2 (mE hE eM_0) rfl (c_X12_canHold l D K sh ad cy X B hcl hE G L O x2 (G 20 x2.toNatClampNeg) (G 1 x1.toNatClampNeg) h38) kyX12_canHold u5_147 u5_149 up_26 (by decide) rfl hl.1 rfl (Nat.le_of_ble_eq_true rfl) ⟨Nat.zero_le _, Nat.zero_le _⟩ dX12_wrongIn_39) (fun H locs hI => ?_)
          refine lv_icmp_le (tgt := 50) hx hb dX12_wrongIn_42 (by decide) (fun c39 => ?_) (fun c39 => ?_)
          · have hf := ite_t c39 hf
            obtain ⟨x2_40, ex2_40, hf⟩ := bnd_i hf
            refine lv_iinc (v := x2_40) (lv' := [(2, .int x2_40), (0, .ref (ad 0)), (1, .int x1)]) hx hb dX12_wrongIn_50 hl (k := 2) rfl (by rw [ex2_40]; rfl) (by decide) rfl (fun ls hl => ?_)
            refine lv_goto (tgt := 2) hx hb dX12_wrongIn_53 (by decide) ?_
            exact ih x2_40 H locs ls (lv_sub hl [1, 2, 0] rfl) hI hf
          · have hf := ite_f c39 hf
            refine lv_bipush (v := 100) hx hb dX12_wrongIn_45 (by decide) ?_
            refine lv_iload_n hx hb dX12_wrongIn_47 rfl (lv_at hl 2 rfl) ?_
            refine lv_iadd hx hb dX12_wrongIn_48 ?_
            cases hf
            exact s_iret hx hb hr hI.2.2 hI.1 hlocks dX12_wrongIn_49
  rw [f_X12_wrongIn] at hf
  refine lv_iconst (v := 0) hx hb dX12_wrongIn_0 (by decide) ?_
  refine lv_istore_n (lv' := [(2, .int 0), (0, .ref (ad 0)), (1, .int x1)]) hx hb dX12_wrongIn_1 rfl hl (by decide) rfl (fun ls hl => ?_)
  exact B2   fuel 0 H locs ls (lv_sub hl [1, 2, 0] rfl) hI hf
noncomputable def q_X12_wrong_32 (x1 : Int32)  (rec : (Mem × Int32) → Option (Mem × Int32)) : (Mem × Int32) → Option (Mem × Int32) := fun (G, x2) => (if (G 0 1) ≤ x2 then some (G, (-1)) else bndO (f_X12_go G x1 x2) (fun G10 => bndO (f_X12_lookThin G10) (fun G12 => bndO (f_X12_wrongIn G12 x2) (fun v14 => (if v14 = (-1) then bnd (x2 + 1) (fun x2_17 => rec (G12, x2_17)) else some (G12, ((1000 * x2) + v14)))))))
noncomputable def f_X12_wrong (G : Mem) (x1 : Int32) : Option (Mem × Int32) := (if (f_X12_isWay x1) = 0 then some (G, (-2)) else bndO (f_X12_isMissing G x1) (fun v2 => (if v2 = 0 then bndO (f_X12_begin G) (fun G5 => bndO (f_X12_beginThin G5) (fun G7 => iter (q_X12_wrong_32 x1) fuel (G7, 0))) else some (G, (-11)))))
theorem kyX12_wrong : Ky yX12_wrong cX12_wrong 4 (some FieldType.int) 1 := ⟨u6_51, u1_15, by decide, by decide, by decide, by decide +kernel⟩
set_option maxHeartbeats 4000000 in
set_option maxRecDepth 100000 in
theorem c_X12_wrong (l : Launch) (D : va_G) (K : List Nat) (sh : Nat → Ent) (ad : Nat → Nat) (cy : Nat → ClassId) (X : va_W) (B : State → Prop) (hcl : Bcl (AS K ad X) B) (hE : ∀ q ∈ shM, q.1 ∈ K ∧ sh q.1 = q.2) (G : Mem) (L : MemL) (O : MemO) (x1 : Int32) {Gz : Mem} {vz : Int32} (hf : f_X12_wrong G x1 = some (Gz, vz)) : Met l yX12_wrong (wsU yX12_wrong cX12_wrong 4 (some FieldType.int)) (rmX 5 0 0) (va_Pc [.ref (ad 0), .int x1] (PS D K sh ad cy X B G L O)) (QI (AS K ad X) (PH D K sh ad cy X Gz L O) vz) 0 0 (AS K ad X) := by
  refine s_met (by decide) (Nat.le_of_ble_eq_true rfl) ?_
  intro p e s m args below meth c ls H locs E hK hBs hnm hI hl
  have hl : lv_has ls 4 [(0, .ref (ad 0)), (1, .int x1)] := hl
  have E : Cx p s m args meth c RX12 cX12_wrong 4 (some FieldType.int) := E
  obtain ⟨hx, hb, hr, hml, hown, hu, hlocks⟩ := id E
  have B32 : ∀   (n : Nat) (G : Mem) (x2 : Int32) (H : Heap) (locs : List Loc) (ls : Array Slot), lv_has ls 4 [(0, .ref (ad 0)), (1, .int x1), (2, .int x2)] → IS D K sh ad cy X (AS K ad X) s.heap H locs G L O → iter (q_X12_wrong_32 x1) n (G, x2) = some (Gz, vz) → W p l e (rmX 5 0 0) s m args below meth c H locs 0 0 (MQ below (QI (AS K ad X) (PH D K sh ad cy X Gz L O) vz) args s 0 0 (AS K ad X)) (F0 m 32 ls []) := by
    intro n
    induction n with
    | zero => intro G x2 H locs ls hl hI hf; exact iter_0 hf
    | succ n ih =>
      intro G x2 H locs ls hl hI hf
      have hf : q_X12_wrong_32 x1 (iter (q_X12_wrong_32 x1) n) (G, x2) = some (Gz, vz) := hf
      rw [q_X12_wrong_32] at hf
      refine lv_iload_n hx hb dX12_wrong_32 rfl (lv_at hl 2 rfl) ?_
      refine lv_aload_n hx hb dX12_wrong_33 rfl (lv_at hl 0 rfl) ?_
      refine s_get (v := .int (G 0 1)) hx hb hu inU12 hown hK hI (mE hE eM_0) rfl 1 (by decide) u4_189 (fun _ h => h) rfl rfl dX12_wrong_34 ?_
      refine lv_icmp_ge (tgt := 75) hx hb dX12_wrong_37 (by decide) (fun c9 => ?_) (fun c9 => ?_)
      · have hf := ite_t c9 hf
        refine lv_iconst (v := (-1)) hx hb dX12_wrong_75 (by decide) ?_
        cases hf
        exact s_iret hx hb hr hI.2.2 hI.1 hlocks dX12_wrong_76
      · have hf := ite_f c9 hf
        refine lv_aload_n hx hb dX12_wrong_40 rfl (lv_at hl 0 rfl) ?_
        refine lv_iload_n hx hb dX12_wrong_41 rfl (lv_at hl 1 rfl) ?_
        refine lv_iload_n hx hb dX12_wrong_42 rfl (lv_at hl 2 rfl) ?_
        obtain ⟨G10, h11, hf⟩ := bndO_i hf
        refine s_afV hI (s_runV (rest := []) (As := [.int x1, .int x2]) (np := 2) E hK hI (s_B hcl hBs hI) hcl.2 (mE hE eM_0) rfl (c_X12_go l D K sh ad cy X B hcl hE G L O x1 x2 h11) kyX12_go u6_13 u6_15 up_47 (by decide) rfl hl.1 rfl (Nat.le_of_ble_eq_true rfl) ⟨Nat.zero_le _, Nat.zero_le _⟩ dX12_wrong_43) (fun H locs hI => ?_)
        refine lv_aload_n hx hb dX12_wrong_46 rfl (lv_at hl 0 rfl) ?_
        obtain ⟨G12, h13, hf⟩ := bndO_i hf
        refine s_afV hI (s_runV (rest := []) (As := []) (np := 0) E hK hI (s_B hcl hBs hI) hcl.2 (mE hE eM_0) rfl (c_X12_lookThin l D K sh ad cy X B hcl hE G10 L O  h13) kyX12_lookThin u6_56 u6_58 up_55 (by decide) rfl hl.1 rfl (Nat.le_of_ble_eq_true rfl) ⟨Nat.zero_le _, Nat.zero_le _⟩ dX12_wrong_47) (fun H locs hI => ?_)
        refine lv_aload_n hx hb dX12_wrong_50 rfl (lv_at hl 0 rfl) ?_
        refine lv_iload_n hx hb dX12_wrong_51 rfl (lv_at hl 2 rfl) ?_
        obtain ⟨v14, h15, hf⟩ := bndO_i hf
        refine s_afI hI (s_runV (rest := []) (As := [.int x2]) (np := 1) E hK hI (s_B hcl hBs hI) hcl.2 (mE hE eM_0) rfl (c_X12_wrongIn l D K sh ad cy X B hcl hE G12 L O x2 h15) kyX12_wrongIn u6_60 u6_62 up_56 (by decide) rfl hl.1 rfl (Nat.le_of_ble_eq_true rfl) ⟨Nat.zero_le _, Nat.zero_le _⟩ dX12_wrong_52) (fun H locs hI => ?_)
        refine lv_istore_n (lv' := [(3, .int v14), (0, .ref (ad 0)), (1, .int x1), (2, .int x2)]) hx hb dX12_wrong_55 rfl hl (by decide) rfl (fun ls hl => ?_)
        refine lv_iload_n hx hb dX12_wrong_56 rfl (lv_at hl 0 rfl) ?_
        refine lv_iconst (v := (-1)) hx hb dX12_wrong_57 (by decide) ?_
        refine lv_icmp_eq (tgt := 69) hx hb dX12_wrong_58 (by decide) (fun c16 => ?_) (fun c16 => ?_)
        · have hf := ite_t c16 hf
          obtain ⟨x2_17, ex2_17, hf⟩ := bnd_i hf
          refine lv_iinc (v := x2_17) (lv' := [(2, .int x2_17), (3, .int v14), (0, .ref (ad 0)), (1, .int x1)]) hx hb dX12_wrong_69 hl (k := 3) rfl (by rw [ex2_17]; rfl) (by decide) rfl (fun ls hl => ?_)
          refine lv_goto (tgt := 32) hx hb dX12_wrong_72 (by decide) ?_
          exact ih G12 x2_17 H locs ls (lv_sub hl [2, 3, 0] rfl) hI hf
        · have hf := ite_f c16 hf
          refine lv_sipush (v := 1000) hx hb dX12_wrong_61 (by decide) ?_
          refine lv_iload_n hx hb dX12_wrong_64 rfl (lv_at hl 3 rfl) ?_
          refine lv_imul hx hb dX12_wrong_65 ?_
          refine lv_iload_n hx hb dX12_wrong_66 rfl (lv_at hl 0 rfl) ?_
          refine lv_iadd hx hb dX12_wrong_67 ?_
          cases hf
          exact s_iret hx hb hr hI.2.2 hI.1 hlocks dX12_wrong_68
  rw [f_X12_wrong] at hf
  refine lv_aload_n hx hb dX12_wrong_0 rfl (lv_at hl 0 rfl) ?_
  refine lv_iload_n hx hb dX12_wrong_1 rfl (lv_at hl 1 rfl) ?_
  refine s_afI hI (s_runV (rest := []) (As := [.int x1]) (np := 1) E hK hI (s_B hcl hBs hI) hcl.2 (mE hE eM_0) rfl (c_X12_isWay l D K sh ad cy X B hcl hE G L O x1 rfl) kyX12_isWay u5_237 u5_239 up_43 (by decide) rfl hl.1 rfl (Nat.le_of_ble_eq_true rfl) ⟨Nat.zero_le _, Nat.zero_le _⟩ dX12_wrong_2) (fun H locs hI => ?_)
  refine lv_if_ne (tgt := 11) hx hb dX12_wrong_5 (by decide) (fun c1 => ?_) (fun c1 => ?_)
  · have hf := ite_f c1 hf
    refine lv_aload_n hx hb dX12_wrong_11 rfl (lv_at hl 0 rfl) ?_
    refine lv_iload_n hx hb dX12_wrong_12 rfl (lv_at hl 1 rfl) ?_
    obtain ⟨v2, h3, hf⟩ := bndO_i hf
    refine s_afI hI (s_runV (rest := []) (As := [.int x1]) (np := 1) E hK hI (s_B hcl hBs hI) hcl.2 (mE hE eM_0) rfl (c_X12_isMissing l D K sh ad cy X B hcl hE G L O x1 h3) kyX12_isMissing u6_5 u6_7 up_45 (by decide) rfl hl.1 rfl (Nat.le_of_ble_eq_true rfl) ⟨Nat.zero_le _, Nat.zero_le _⟩ dX12_wrong_13) (fun H locs hI => ?_)
    refine lv_if_eq (tgt := 22) hx hb dX12_wrong_16 (by decide) (fun c4 => ?_) (fun c4 => ?_)
    · have hf := ite_t c4 hf
      refine lv_aload_n hx hb dX12_wrong_22 rfl (lv_at hl 0 rfl) ?_
      obtain ⟨G5, h6, hf⟩ := bndO_i hf
      refine s_afV hI (s_runV (rest := []) (As := []) (np := 0) E hK hI (s_B hcl hBs hI) hcl.2 (mE hE eM_0) rfl (c_X12_begin l D K sh ad cy X B hcl hE G L O  h6) kyX12_begin u6_9 u6_11 up_46 (by decide) rfl hl.1 rfl (Nat.le_of_ble_eq_true rfl) ⟨Nat.zero_le _, Nat.zero_le _⟩ dX12_wrong_23) (fun H locs hI => ?_)
      refine lv_aload_n hx hb dX12_wrong_26 rfl (lv_at hl 0 rfl) ?_
      obtain ⟨G7, h8, hf⟩ := bndO_i hf
      refine s_afV hI (s_runV (rest := []) (As := []) (np := 0) E hK hI (s_B hcl hBs hI) hcl.2 (mE hE eM_0) rfl (c_X12_beginThin l D K sh ad cy X B hcl hE G5 L O  h8) kyX12_beginThin u6_52 u6_54 up_54 (by decide) rfl hl.1 rfl (Nat.le_of_ble_eq_true rfl) ⟨Nat.zero_le _, Nat.zero_le _⟩ dX12_wrong_27) (fun H locs hI => ?_)
      refine lv_iconst (v := 0) hx hb dX12_wrong_30 (by decide) ?_
      refine lv_istore_n (lv' := [(2, .int 0), (0, .ref (ad 0)), (1, .int x1)]) hx hb dX12_wrong_31 rfl hl (by decide) rfl (fun ls hl => ?_)
      exact B32   fuel G7 0 H locs ls (lv_sub hl [1, 2, 0] rfl) hI hf
    · have hf := ite_f c4 hf
      refine lv_bipush (v := (-11)) hx hb dX12_wrong_19 (by decide) ?_
      cases hf
      exact s_iret hx hb hr hI.2.2 hI.1 hlocks dX12_wrong_21
  · have hf := ite_t c1 hf
    refine lv_bipush (v := (-2)) hx hb dX12_wrong_8 (by decide) ?_
    cases hf
    exact s_iret hx hb hr hI.2.2 hI.1 hlocks dX12_wrong_10
