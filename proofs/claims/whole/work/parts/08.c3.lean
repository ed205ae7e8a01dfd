noncomputable def f_X11_isMissing (G : Mem) (O : MemO) (S : Nat → Nat) (x1 : Int32) : Option (Int32) := (if (f_X11_isPlan x1) = 0 then some 0 else chk (inB (x1 - 2) 4) (bndO (O 118 (x1 - 2).toNatClampNeg) (fun e3 => chk (shE e3) ((if (f_X6_isMissing G e3) = 0 then some 0 else some 1)))))
theorem kyX11_isMissing : Ky yX11_isMissing cX11_isMissing 2 (some FieldType.boolean) 1 := ⟨u3_182, u1_1, by decide, by decide, by decide, by decide +kernel⟩
set_option maxHeartbeats 4000000 in
set_option maxRecDepth 100000 in
theorem c_X11_isMissing (l : Launch) (D : va_G) (K : List Nat) (sh : Nat → Ent) (ad : Nat → Nat) (cy : Nat → ClassId) (X : va_W) (B : State → Prop) (hcl : Bcl (AS K ad X) B) (S : Nat → Nat) (hE : HC S K sh) (G : Mem) (L : MemL) (O : MemO) (x1 : Int32)  {vz : Int32} (hf : f_X11_isMissing G O S x1 = some vz) : Met l yX11_isMissing (wsU yX11_isMissing cX11_isMissing 2 (some FieldType.boolean)) (rmX 2 0 0) (va_Pc [.ref (ad 100), .int x1] (PS D K sh ad cy X B G L O)) (QI (AS K ad X) (PH D K sh ad cy X G L O) vz) 0 0 (AS K ad X) := by
  refine s_met (by decide) (Nat.le_of_ble_eq_true rfl) ?_
  intro p e s m args below meth c ls H locs E hK hBs hnm hI hl
  have hl : lv_has ls 2 [(0, .ref (ad 100)), (1, .int x1)] := hl
  have E : Cx p s m args meth c RX11 cX11_isMissing 2 (some FieldType.boolean) := E
  obtain ⟨hx, hb, hr, hml, hown, hu, hlocks⟩ := id E
  rw [f_X11_isMissing] at hf
  refine lv_iload_n hx hb dX11_isMissing_0 rfl (lv_at hl 1 rfl) ?_
  refine s_cSP (np := 1) (rest := []) E (c_X11_isPlan l x1 rfl) kyX11_isPlan u3_183 u3_184 (by decide) rfl hl.1 rfl (Nat.le_of_ble_eq_true rfl) ⟨Nat.zero_le _, Nat.zero_le _⟩ dX11_isMissing_1 ?_
  refine lv_if_eq (tgt := 25) hx hb dX11_isMissing_4 (by decide) (fun c1 => ?_) (fun c1 => ?_)
  · have hf := ite_t c1 hf
    refine lv_iconst (v := 0) hx hb dX11_isMissing_25 (by decide) ?_
    cases hf
    exact s_zret rfl hx hb hr hI.2.2 hI.1 hlocks dX11_isMissing_26
  · have hf := ite_f c1 hf
    refine lv_aload_n hx hb dX11_isMissing_7 rfl (lv_at hl 0 rfl) ?_
    refine s_get (v := .ref (ad 118)) hx hb hu inU11 hown hK hI (mE hE.1 eC_100) rfl 8 (by decide) u2_183 (fun _ h => h) rfl rfl dX11_isMissing_8 ?_
    refine lv_iload_n hx hb dX11_isMissing_11 rfl (lv_at hl 1 rfl) ?_
    refine lv_iconst (v := 2) hx hb dX11_isMissing_12 (by decide) ?_
    refine lv_isub hx hb dX11_isMissing_13 ?_
    obtain ⟨h2, hf⟩ := chk_i hf
    obtain ⟨e3, h4, hf⟩ := bndO_i hf
    obtain ⟨h5, hf⟩ := chk_i hf
    refine s_ald (t := 8) (t0 := 7) (by decide) rfl hx hb hK hI (mE hE.1 eC_118) (inB_i h2) dX11_isMissing_14 ?_
    refine s_nmO h4 ?_
    refine s_afI hI (s_runV (rest := []) (As := []) (np := 0) E hK hI (s_B hcl hBs hI) hcl.2 (shS hE.1 h5) rfl (c_X6_isMissing l D K sh ad cy X B hcl S hE e3 h5 G L O  rfl) kyX6_isMissing u3_186 u3_187 u3_188 (by decide) rfl hl.1 rfl (Nat.le_of_ble_eq_true rfl) ⟨Nat.zero_le _, Nat.zero_le _⟩ dX11_isMissing_15) (fun H locs hI => ?_)
    refine lv_if_eq (tgt := 25) hx hb dX11_isMissing_18 (by decide) (fun c6 => ?_) (fun c6 => ?_)
    · have hf := ite_t c6 hf
      refine lv_iconst (v := 0) hx hb dX11_isMissing_25 (by decide) ?_
      cases hf
      exact s_zret rfl hx hb hr hI.2.2 hI.1 hlocks dX11_isMissing_26
    · have hf := ite_f c6 hf
      refine lv_iconst (v := 1) hx hb dX11_isMissing_21 (by decide) ?_
      refine lv_goto (tgt := 26) hx hb dX11_isMissing_22 (by decide) ?_
      cases hf
      exact s_zret rfl hx hb hr hI.2.2 hI.1 hlocks dX11_isMissing_26
noncomputable def f_X11_prepare (G : Mem) (L : MemL) (O : MemO) (S : Nat → Nat) (x1 : Int32) : Option (Mem × MemL × MemO) := chk (inB (G 101 7) 6) (bndO (O 117 (G 101 7).toNatClampNeg) (fun e2 => chk (txE S e2) (bndP (f_X1_choose G O x1 (G 100 4) e2) (fun G5 O6 => (if (f_X11_isPlan x1) = 0 then bndO (f_X1_start G5) (fun G9 => some (G9, L, O6)) else chk (inB (x1 - 2) 4) (bndO (O6 118 (x1 - 2).toNatClampNeg) (fun e12 => chk (shE e12) (bndO (f_X1_readPlan G5 L e12) (fun L15 => bndO (f_X1_start G5) (fun G17 => some (G17, L15, O6)))))))))))
theorem kyX11_prepare : Ky yX11_prepare cX11_prepare 2 none 1 := ⟨u3_197, u1_1, by decide, by decide, by decide, by decide +kernel⟩
set_option maxHeartbeats 4000000 in
set_option maxRecDepth 100000 in
theorem c_X11_prepare (l : Launch) (D : va_G) (K : List Nat) (sh : Nat → Ent) (ad : Nat → Nat) (cy : Nat → ClassId) (X : va_W) (B : State → Prop) (hcl : Bcl (AS K ad X) B) (S : Nat → Nat) (hE : HC S K sh) (G : Mem) (L : MemL) (O : MemO) (x1 : Int32) {Gz : Mem} {Lz : MemL} {Oz : MemO} (hf : f_X11_prepare G L O S x1 = some (Gz, Lz, Oz)) : Met l yX11_prepare (wsU yX11_prepare cX11_prepare 2 none) (rmX 3 0 0) (va_Pc [.ref (ad 100), .int x1] (PS D K sh ad cy X B G L O)) (QV (AS K ad X) (PH D K sh ad cy X Gz Lz Oz)) 0 0 (AS K ad X) := by
  refine s_met (by decide) (Nat.le_of_ble_eq_true rfl) ?_
  intro p e s m args below meth c ls H locs E hK hBs hnm hI hl
  have hl : lv_has ls 2 [(0, .ref (ad 100)), (1, .int x1)] := hl
  have E : Cx p s m args meth c RX11 cX11_prepare 2 none := E
  obtain ⟨hx, hb, hr, hml, hown, hu, hlocks⟩ := id E
  rw [f_X11_prepare] at hf
  refine lv_aload_n hx hb dX11_prepare_0 rfl (lv_at hl 0 rfl) ?_
  refine s_get (v := .ref (ad 128)) hx hb hu inU11 hown hK hI (mE hE.1 eC_100) rfl 9 (by decide) u2_184 (fun _ h => h) rfl rfl dX11_prepare_1 ?_
  refine lv_iload_n hx hb dX11_prepare_4 rfl (lv_at hl 1 rfl) ?_
  refine lv_aload_n hx hb dX11_prepare_5 rfl (lv_at hl 0 rfl) ?_
  refine s_get (v := .int (G 100 4)) hx hb hu inU11 hown hK hI (mE hE.1 eC_100) rfl 4 (by decide) u2_179 (fun _ h => h) rfl rfl dX11_prepare_6 ?_
  refine lv_aload_n hx hb dX11_prepare_9 rfl (lv_at hl 0 rfl) ?_
  refine s_get (v := .ref (ad 117)) hx hb hu inU11 hown hK hI (mE hE.1 eC_100) rfl 6 (by decide) u2_181 (fun _ h => h) rfl rfl dX11_prepare_10 ?_
  refine lv_aload_n hx hb dX11_prepare_13 rfl (lv_at hl 0 rfl) ?_
  refine s_get (v := .ref (ad 101)) hx hb hu inU11 hown hK hI (mE hE.1 eC_100) rfl 0 (by decide) u2_175 (fun _ h => h) rfl rfl dX11_prepare_14 ?_
  refine s_get (v := .int (G 101 7)) hx hb hu inU4 hown hK hI (mE hE.1 eC_101) rfl 7 (by decide) u1_62 (fun _ h => h) rfl rfl dX11_prepare_17 ?_
  obtain ⟨h1, hf⟩ := chk_i hf
  obtain ⟨e2, h3, hf⟩ := bndO_i hf
  obtain ⟨h4, hf⟩ := chk_i hf
  refine s_ald (t := 7) (t0 := 6) (by decide) rfl hx hb hK hI (mE hE.1 eC_117) (inB_i h1) dX11_prepare_20 ?_
  refine s_nmO h3 ?_
  obtain ⟨G5, O6, h7, hf⟩ := bndP_i hf
  refine s_afV hI (s_runV (rest := []) (As := [.int x1, .int (G 100 4), .ref (ad e2)]) (np := 3) E hK hI (s_B hcl hBs hI) hcl.2 (mE hE.1 eC_128) rfl (c_X1_choose l D K sh ad cy X B hcl S hE e2 h4 G L O x1 (G 100 4) h7) kyX1_choose u3_198 u3_199 u3_200 (by decide) rfl hl.1 rfl (Nat.le_of_ble_eq_true rfl) ⟨Nat.zero_le _, Nat.zero_le _⟩ dX11_prepare_21) (fun H locs hI => ?_)
  refine lv_iload_n hx hb dX11_prepare_24 rfl (lv_at hl 1 rfl) ?_
  refine s_cSP (np := 1) (rest := []) E (c_X11_isPlan l x1 rfl) kyX11_isPlan u3_183 u3_184 (by decide) rfl hl.1 rfl (Nat.le_of_ble_eq_true rfl) ⟨Nat.zero_le _, Nat.zero_le _⟩ dX11_prepare_25 ?_
  refine lv_if_eq (tgt := 46) hx hb dX11_prepare_28 (by decide) (fun c8 => ?_) (fun c8 => ?_)
  · have hf := ite_t c8 hf
    refine lv_aload_n hx hb dX11_prepare_46 rfl (lv_at hl 0 rfl) ?_
    refine s_get (v := .ref (ad 128)) hx hb hu inU11 hown hK hI (mE hE.1 eC_100) rfl 9 (by decide) u2_184 (fun _ h => h) rfl rfl dX11_prepare_47 ?_
    obtain ⟨G9, h10, hf⟩ := bndO_i hf
    refine s_afV hI (s_runV (rest := []) (As := []) (np := 0) E hK hI (s_B hcl hBs hI) hcl.2 (mE hE.1 eC_128) rfl (c_X1_start l D K sh ad cy X B hcl S hE G5 L O6  h10) kyX1_start u3_210 u3_211 u3_212 (by decide) rfl hl.1 rfl (Nat.le_of_ble_eq_true rfl) ⟨Nat.zero_le _, Nat.zero_le _⟩ dX11_prepare_50) (fun H locs hI => ?_)
    cases hf
    exact s_vret hx hb hr hI.2.2 hI.1 hlocks dX11_prepare_53
  · have hf := ite_f c8 hf
    refine lv_aload_n hx hb dX11_prepare_31 rfl (lv_at hl 0 rfl) ?_
    refine s_get (v := .ref (ad 128)) hx hb hu inU11 hown hK hI (mE hE.1 eC_100) rfl 9 (by decide) u2_184 (fun _ h => h) rfl rfl dX11_prepare_32 ?_
    refine lv_aload_n hx hb dX11_prepare_35 rfl (lv_at hl 0 rfl) ?_
    refine s_get (v := .ref (ad 118)) hx hb hu inU11 hown hK hI (mE hE.1 eC_100) rfl 8 (by decide) u2_183 (fun _ h => h) rfl rfl dX11_prepare_36 ?_
    refine lv_iload_n hx hb dX11_prepare_39 rfl (lv_at hl 1 rfl) ?_
    refine lv_iconst (v := 2) hx hb dX11_prepare_40 (by decide) ?_
    refine lv_isub hx hb dX11_prepare_41 ?_
    obtain ⟨h11, hf⟩ := chk_i hf
    obtain ⟨e12, h13, hf⟩ := bndO_i hf
    obtain ⟨h14, hf⟩ := chk_i hf
    refine s_ald (t := 8) (t0 := 7) (by decide) rfl hx hb hK hI (mE hE.1 eC_118) (inB_i h11) dX11_prepare_42 ?_
    refine s_nmO h13 ?_
    obtain ⟨L15, h16, hf⟩ := bndO_i hf
    refine s_afV hI (s_runV (rest := []) (As := [.ref (ad e12)]) (np := 1) E hK hI (s_B hcl hBs hI) hcl.2 (mE hE.1 eC_128) rfl (c_X1_readPlan l D K sh ad cy X B hcl S hE e12 h14 G5 L O6  h16) kyX1_readPlan u3_202 u3_203 u3_204 (by decide) rfl hl.1 rfl (Nat.le_of_ble_eq_true rfl) ⟨Nat.zero_le _, Nat.zero_le _⟩ dX11_prepare_43) (fun H locs hI => ?_)
    refine lv_aload_n hx hb dX11_prepare_46 rfl (lv_at hl 0 rfl) ?_
    refine s_get (v := .ref (ad 128)) hx hb hu inU11 hown hK hI (mE hE.1 eC_100) rfl 9 (by decide) u2_184 (fun _ h => h) rfl rfl dX11_prepare_47 ?_
    obtain ⟨G17, h18, hf⟩ := bndO_i hf
    refine s_afV hI (s_runV (rest := []) (As := []) (np := 0) E hK hI (s_B hcl hBs hI) hcl.2 (mE hE.1 eC_128) rfl (c_X1_start l D K sh ad cy X B hcl S hE G5 L15 O6  h18) kyX1_start u3_210 u3_211 u3_212 (by decide) rfl hl.1 rfl (Nat.le_of_ble_eq_true rfl) ⟨Nat.zero_le _, Nat.zero_le _⟩ dX11_prepare_50) (fun H locs hI => ?_)
    cases hf
    exact s_vret hx hb hr hI.2.2 hI.1 hlocks dX11_prepare_53
noncomputable def q_X11_perform_7 (S : Nat → Nat) (x1 : Int32) (x2 : Int32)  (rec : (Mem × MemL × MemO × Int32) → Option (Mem × MemL × MemO)) : (Mem × MemL × MemO × Int32) → Option (Mem × MemL × MemO) := fun (G, L, O, x3) => (if x2 < x3 then some (G, L, O) else (if (G 101 5) ≤ x3 then some (G, L, O) else chk (inB x3 48) (bndO (f_X1_advance G L O S x3 (G 102 x3.toNatClampNeg)) (fun G8 => bnd (x3 + 1) (fun x3_10 => rec (G8, L, O, x3_10))))))
noncomputable def f_X11_perform (G : Mem) (L : MemL) (O : MemO) (S : Nat → Nat) (x1 : Int32) (x2 : Int32) : Option (Mem × MemL × MemO) := bndP3 (f_X11_prepare G L O S x1) (fun G1 L2 O3 => iter (q_X11_perform_7 S x1 x2) fuel (G1, L2, O3, 0))
theorem kyX11_perform : Ky yX11_perform cX11_perform 4 none 2 := ⟨u3_193, u1_1, by decide, by decide, by decide, by decide +kernel⟩
set_option maxHeartbeats 4000000 in
set_option maxRecDepth 100000 in
theorem c_X11_perform (l : Launch) (D : va_G) (K : List Nat) (sh : Nat → Ent) (ad : Nat → Nat) (cy : Nat → ClassId) (X : va_W) (B : State → Prop) (hcl : Bcl (AS K ad X) B) (S : Nat → Nat) (hE : HC S K sh) (G : Mem) (L : MemL) (O : MemO) (x1 : Int32) (x2 : Int32) {Gz : Mem} {Lz : MemL} {Oz : MemO} (hf : f_X11_perform G L O S x1 x2 = some (Gz, Lz, Oz)) : Met l yX11_perform (wsU yX11_perform cX11_perform 4 none) (rmX 7 0 0) (va_Pc [.ref (ad 100), .int x1, .int x2] (PS D K sh ad cy X B G L O)) (QV (AS K ad X) (PH D K sh ad cy X Gz Lz Oz)) 0 0 (AS K ad X) := by
  refine s_met (by decide) (Nat.le_of_ble_eq_true rfl) ?_
  intro p e s m args below meth c ls H locs E hK hBs hnm hI hl
  have hl : lv_has ls 4 [(0, .ref (ad 100)), (1, .int x1), (2, .int x2)] := hl
  have E : Cx p s m args meth c RX11 cX11_perform 4 none := E
  obtain ⟨hx, hb, hr, hml, hown, hu, hlocks⟩ := id E
  have B7 : ∀   (n : Nat) (G : Mem) (L : MemL) (O : MemO) (x3 : Int32) (H : Heap) (locs : List Loc) (ls : Array Slot), lv_has ls 4 [(0, .ref (ad 100)), (2, .int x2), (3, .int x3)] → IS D K sh ad cy X (AS K ad X) s.heap H locs G L O → iter (q_X11_perform_7 S x1 x2) n (G, L, O, x3) = some (Gz, Lz, Oz) → W p l e (rmX 7 0 0) s m args below meth c H locs 0 0 (MQ below (QV (AS K ad X) (PH D K sh ad cy X Gz Lz Oz)) args s 0 0 (AS K ad X)) (F0 m 7 ls []) := by
    intro n
    induction n with
    | zero => intro G L O x3 H locs ls hl hI hf; exact iter_0 hf
    | succ n ih =>
      intro G L O x3 H locs ls hl hI hf
      have hf : q_X11_perform_7 S x1 x2 (iter (q_X11_perform_7 S x1 x2) n) (G, L, O, x3) = some (Gz, Lz, Oz) := hf
      rw [q_X11_perform_7] at hf
      refine lv_iload_n hx hb dX11_perform_7 rfl (lv_at hl 2 rfl) ?_
      refine lv_iload_n hx hb dX11_perform_8 rfl (lv_at hl 1 rfl) ?_
      refine lv_icmp_gt (tgt := 46) hx hb dX11_perform_9 (by decide) (fun c5 => ?_) (fun c5 => ?_)
      · have hf := ite_t c5 hf
        cases hf
        exact s_vret hx hb hr hI.2.2 hI.1 hlocks dX11_perform_46
      · have hf := ite_f c5 hf
        refine lv_iload_n hx hb dX11_perform_12 rfl (lv_at hl 2 rfl) ?_
        refine lv_aload_n hx hb dX11_perform_13 rfl (lv_at hl 0 rfl) ?_
        refine s_get (v := .ref (ad 101)) hx hb hu inU11 hown hK hI (mE hE.1 eC_100) rfl 0 (by decide) u2_175 (fun _ h => h) rfl rfl dX11_perform_14 ?_
        refine s_get (v := .int (G 101 5)) hx hb hu inU4 hown hK hI (mE hE.1 eC_101) rfl 5 (by decide) u1_56 (fun _ h => h) rfl rfl dX11_perform_17 ?_
        refine lv_icmp_ge (tgt := 46) hx hb dX11_perform_20 (by decide) (fun c6 => ?_) (fun c6 => ?_)
        · have hf := ite_t c6 hf
          cases hf
          exact s_vret hx hb hr hI.2.2 hI.1 hlocks dX11_perform_46
        · have hf := ite_f c6 hf
          refine lv_aload_n hx hb dX11_perform_23 rfl (lv_at hl 0 rfl) ?_
          refine s_get (v := .ref (ad 128)) hx hb hu inU11 hown hK hI (mE hE.1 eC_100) rfl 9 (by decide) u2_184 (fun _ h => h) rfl rfl dX11_perform_24 ?_
          refine lv_iload_n hx hb dX11_perform_27 rfl (lv_at hl 2 rfl) ?_
          refine lv_aload_n hx hb dX11_perform_28 rfl (lv_at hl 0 rfl) ?_
          refine s_get (v := .ref (ad 101)) hx hb hu inU11 hown hK hI (mE hE.1 eC_100) rfl 0 (by decide) u2_175 (fun _ h => h) rfl rfl dX11_perform_29 ?_
          refine s_get (v := .ref (ad 102)) hx hb hu inU4 hown hK hI (mE hE.1 eC_101) rfl 0 (by decide) u1_41 (fun _ h => h) rfl rfl dX11_perform_32 ?_
          refine lv_iload_n hx hb dX11_perform_35 rfl (lv_at hl 2 rfl) ?_
          obtain ⟨h7, hf⟩ := chk_i hf
          refine s_ild hx hb hK hI (mE hE.1 eC_102) (inB_i h7) dX11_perform_36 ?_
          obtain ⟨G8, h9, hf⟩ := bndO_i hf
          refine s_afV hI (s_runV (rest := []) (As := [.int x3, .int (G 102 x3.toNatClampNeg)]) (np := 2) E hK hI (s_B hcl hBs hI) hcl.2 (mE hE.1 eC_128) rfl (c_X1_advance l D K sh ad cy X B hcl S hE G L O x3 (G 102 x3.toNatClampNeg) h9) kyX1_advance u3_215 u3_216 u3_217 (by decide) rfl hl.1 rfl (Nat.le_of_ble_eq_true rfl) ⟨Nat.zero_le _, Nat.zero_le _⟩ dX11_perform_37) (fun H locs hI => ?_)
          obtain ⟨x3_10, ex3_10, hf⟩ := bnd_i hf
          refine lv_iinc (v := x3_10) (lv' := [(3, .int x3_10), (0, .ref (ad 100)), (2, .int x2)]) hx hb dX11_perform_40 hl (k := 2) rfl (by rw [ex3_10]; rfl) (by decide) rfl (fun ls hl => ?_)
          refine lv_goto (tgt := 7) hx hb dX11_perform_43 (by decide) ?_
          exact ih G8 L O x3_10 H locs ls (lv_sub hl [1, 2, 0] rfl) hI hf
  rw [f_X11_perform] at hf
  refine lv_aload_n hx hb dX11_perform_0 rfl (lv_at hl 0 rfl) ?_
  refine lv_iload_n hx hb dX11_perform_1 rfl (lv_at hl 1 rfl) ?_
  obtain ⟨G1, L2, O3, h4, hf⟩ := bndP3_i hf
  refine s_afV hI (s_runV (rest := []) (As := [.int x1]) (np := 1) E hK hI (s_B hcl hBs hI) hcl.2 (mE hE.1 eC_100) rfl (c_X11_prepare l D K sh ad cy X B hcl S hE G L O x1 h4) kyX11_prepare u3_194 u3_196 up_17 (by decide) rfl hl.1 rfl (Nat.le_of_ble_eq_true rfl) ⟨Nat.zero_le _, Nat.zero_le _⟩ dX11_perform_2) (fun H locs hI => ?_)
  refine lv_iconst (v := 0) hx hb dX11_perform_5 (by decide) ?_
  refine lv_istore_n (lv' := [(3, .int 0), (0, .ref (ad 100)), (1, .int x1), (2, .int x2)]) hx hb dX11_perform_6 rfl hl (by decide) rfl (fun ls hl => ?_)
  exact B7   fuel G1 L2 O3 0 H locs ls (lv_sub hl [1, 3, 0] rfl) hI hf
noncomputable def q_X11_earlierLike_2 (L : MemL) (x1 : Int32)  (rec : Int32 → Option (Int32)) : Int32 → Option (Int32) := fun x2 => (if x1 ≤ x2 then some (-1) else chk (inB x2 200) (chk (inB x1 200) ((if (lg_cmp (L 137 x2.toNatClampNeg) (L 137 x1.toNatClampNeg)) = 0 then chk (inB x2 200) (chk (inB x1 200) ((if (lg_cmp (L 138 x2.toNatClampNeg) (L 138 x1.toNatClampNeg)) = 0 then some x2 else bnd (x2 + 1) (fun x2_9 => rec x2_9)))) else bnd (x2 + 1) (fun x2_5 => rec x2_5)))))
noncomputable def f_X11_earlierLike (L : MemL) (x1 : Int32) : Option (Int32) := iter (q_X11_earlierLike_2 L x1) fuel 0
theorem kyX11_earlierLike : Ky yX11_earlierLike cX11_earlierLike 3 (some FieldType.int) 1 := ⟨u4_84, u1_1, by decide, by decide, by decide, by decide +kernel⟩
set_option maxHeartbeats 4000000 in
set_option maxRecDepth 100000 in
theorem c_X11_earlierLike (l : Launch) (D : va_G) (K : List Nat) (sh : Nat → Ent) (ad : Nat → Nat) (cy : Nat → ClassId) (X : va_W) (B : State → Prop) (hcl : Bcl (AS K ad X) B) (S : Nat → Nat) (hE : HC S K sh) (G : Mem) (L : MemL) (O : MemO) (x1 : Int32)  {vz : Int32} (hf : f_X11_earlierLike L x1 = some vz) : Met l yX11_earlierLike (wsU yX11_earlierLike cX11_earlierLike 3 (some FieldType.int)) (rmX 1 0 0) (va_Pc [.ref (ad 100), .int x1] (PS D K sh ad cy X B G L O)) (QI (AS K ad X) (PH D K sh ad cy X G L O) vz) 0 0 (AS K ad X) := by
  refine s_met (by decide) (Nat.le_of_ble_eq_true rfl) ?_
  intro p e s m args below meth c ls H locs E hK hBs hnm hI hl
  have hl : lv_has ls 3 [(0, .ref (ad 100)), (1, .int x1)] := hl
  have E : Cx p s m args meth c RX11 cX11_earlierLike 3 (some FieldType.int) := E
  obtain ⟨hx, hb, hr, hml, hown, hu, hlocks⟩ := id E
  have B2 : ∀   (n : Nat) (x2 : Int32) (H : Heap) (locs : List Loc) (ls : Array Slot), lv_has ls 3 [(0, .ref (ad 100)), (1, .int x1), (2, .int x2)] → IS D K sh ad cy X (AS K ad X) s.heap H locs G L O → iter (q_X11_earlierLike_2 L x1) n x2 = some vz → W p l e (rmX 1 0 0) s m args below meth c H locs 0 0 (MQ below (QI (AS K ad X) (PH D K sh ad cy X G L O) vz) args s 0 0 (AS K ad X)) (F0 m 2 ls []) := by
    intro n
    induction n with
    | zero => intro x2 H locs ls hl hI hf; exact iter_0 hf
    | succ n ih =>
      intro x2 H locs ls hl hI hf
      have hf : q_X11_earlierLike_2 L x1 (iter (q_X11_earlierLike_2 L x1) n) x2 = some vz := hf
      rw [q_X11_earlierLike_2] at hf
      refine lv_iload_n hx hb dX11_earlierLike_2 rfl (lv_at hl 2 rfl) ?_
      refine lv_iload_n hx hb dX11_earlierLike_3 rfl (lv_at hl 1 rfl) ?_
      refine lv_icmp_ge (tgt := 47) hx hb dX11_earlierLike_4 (by decide) (fun c1 => ?_) (fun c1 => ?_)
      · have hf := ite_t c1 hf
        refine lv_iconst (v := (-1)) hx hb dX11_earlierLike_47 (by decide) ?_
        cases hf
        exact s_iret hx hb hr hI.2.2 hI.1 hlocks dX11_earlierLike_48
      · have hf := ite_f c1 hf
        refine lv_aload_n hx hb dX11_earlierLike_7 rfl (lv_at hl 0 rfl) ?_
        refine s_get (v := .ref (ad 137)) hx hb hu inU11 hown hK hI (mE hE.1 eC_100) rfl 10 (by decide) u2_185 (fun _ h => h) rfl rfl dX11_earlierLike_8 ?_
        refine lv_iload_n hx hb dX11_earlierLike_11 rfl (lv_at hl 2 rfl) ?_
        obtain ⟨h2, hf⟩ := chk_i hf
        refine s_lld hx hb hK hI (mE hE.1 eC_137) (inB_i h2) dX11_earlierLike_12 ?_
        refine lv_aload_n hx hb dX11_earlierLike_13 rfl (lv_at hl 0 rfl) ?_
        refine s_get (v := .ref (ad 137)) hx hb hu inU11 hown hK hI (mE hE.1 eC_100) rfl 10 (by decide) u2_185 (fun _ h => h) rfl rfl dX11_earlierLike_14 ?_
        refine lv_iload_n hx hb dX11_earlierLike_17 rfl (lv_at hl 1 rfl) ?_
        obtain ⟨h3, hf⟩ := chk_i hf
        refine s_lld hx hb hK hI (mE hE.1 eC_137) (inB_i h3) dX11_earlierLike_18 ?_
        refine W.lcmp hx hb dX11_earlierLike_19 ?_
        refine lv_if_ne (tgt := 41) hx hb dX11_earlierLike_20 (by decide) (fun c4 => ?_) (fun c4 => ?_)
        · have hf := ite_f c4 hf
          obtain ⟨x2_5, ex2_5, hf⟩ := bnd_i hf
          refine lv_iinc (v := x2_5) (lv' := [(2, .int x2_5), (0, .ref (ad 100)), (1, .int x1)]) hx hb dX11_earlierLike_41 hl (k := 2) rfl (by rw [ex2_5]; rfl) (by decide) rfl (fun ls hl => ?_)
          refine lv_goto (tgt := 2) hx hb dX11_earlierLike_44 (by decide) ?_
          exact ih x2_5 H locs ls (lv_sub hl [1, 2, 0] rfl) hI hf
        · have hf := ite_t c4 hf
          refine lv_aload_n hx hb dX11_earlierLike_23 rfl (lv_at hl 0 rfl) ?_
          refine s_get (v := .ref (ad 138)) hx hb hu inU11 hown hK hI (mE hE.1 eC_100) rfl 11 (by decide) u2_186 (fun _ h => h) rfl rfl dX11_earlierLike_24 ?_
          refine lv_iload_n hx hb dX11_earlierLike_27 rfl (lv_at hl 2 rfl) ?_
          obtain ⟨h6, hf⟩ := chk_i hf
          refine s_lld hx hb hK hI (mE hE.1 eC_138) (inB_i h6) dX11_earlierLike_28 ?_
          refine lv_aload_n hx hb dX11_earlierLike_29 rfl (lv_at hl 0 rfl) ?_
          refine s_get (v := .ref (ad 138)) hx hb hu inU11 hown hK hI (mE hE.1 eC_100) rfl 11 (by decide) u2_186 (fun _ h => h) rfl rfl dX11_earlierLike_30 ?_
          refine lv_iload_n hx hb dX11_earlierLike_33 rfl (lv_at hl 1 rfl) ?_
          obtain ⟨h7, hf⟩ := chk_i hf
          refine s_lld hx hb hK hI (mE hE.1 eC_138) (inB_i h7) dX11_earlierLike_34 ?_
          refine W.lcmp hx hb dX11_earlierLike_35 ?_
          refine lv_if_ne (tgt := 41) hx hb dX11_earlierLike_36 (by decide) (fun c8 => ?_) (fun c8 => ?_)
          · have hf := ite_f c8 hf
            obtain ⟨x2_9, ex2_9, hf⟩ := bnd_i hf
            refine lv_iinc (v := x2_9) (lv' := [(2, .int x2_9), (0, .ref (ad 100)), (1, .int x1)]) hx hb dX11_earlierLike_41 hl (k := 2) rfl (by rw [ex2_9]; rfl) (by decide) rfl (fun ls hl => ?_)
            refine lv_goto (tgt := 2) hx hb dX11_earlierLike_44 (by decide) ?_
            exact ih x2_9 H locs ls (lv_sub hl [1, 2, 0] rfl) hI hf
          · have hf := ite_t c8 hf
            refine lv_iload_n hx hb dX11_earlierLike_39 rfl (lv_at hl 2 rfl) ?_
            cases hf
            exact s_iret hx hb hr hI.2.2 hI.1 hlocks dX11_earlierLike_40
  rw [f_X11_earlierLike] at hf
  refine lv_iconst (v := 0) hx hb dX11_earlierLike_0 (by decide) ?_
  refine lv_istore_n (lv' := [(2, .int 0), (0, .ref (ad 100)), (1, .int x1)]) hx hb dX11_earlierLike_1 rfl hl (by decide) rfl (fun ls hl => ?_)
  exact B2   fuel 0 H locs ls (lv_sub hl [1, 2, 0] rfl) hI hf
noncomputable def j_X11_set_164 (x1 : Int32) (x2 : Int32) (x3 : Int32)  (G : Mem) (x4 : Int32) : Option (Mem × Int32) := some (G, x4)
noncomputable def j_X11_set_133 (x1 : Int32) (x2 : Int32) (x3 : Int32)  (G : Mem) (x4 : Int32) : Option (Mem × Int32) := (if x1 = 5 then (if (f_X11_outside x3 6) = 0 then bnd (G 101 6) (fun x4_8 => bnd (up2 G 101 6 x3) (fun G9 => j_X11_set_164 x1 x2 x3 G9 x4_8)) else j_X11_set_164 x1 x2 x3 G x4) else j_X11_set_164 x1 x2 x3 G x4)
noncomputable def f_X11_set (G : Mem) (x1 : Int32) (x2 : Int32) (x3 : Int32) : Option (Mem × Int32) := (if x1 = 0 then bndP (f_X11_change G 102 48 x2 x3 10) (fun G23 v24 => j_X11_set_164 x1 x2 x3 G23 v24) else (if x1 = 1 then bndP (f_X11_change G 103 48 x2 x3 2) (fun G20 v21 => j_X11_set_164 x1 x2 x3 G20 v21) else (if x1 = 2 then bndP (f_X11_change G 104 48 x2 x3 2) (fun G17 v18 => j_X11_set_164 x1 x2 x3 G17 v18) else (if x1 = 3 then bndP (f_X11_change G 105 4 x2 x3 10) (fun G14 v15 => j_X11_set_164 x1 x2 x3 G14 v15) else (if x1 = 4 then (if x3 < 1 then j_X11_set_133 x1 x2 x3 G (-2) else (if 48 < x3 then j_X11_set_133 x1 x2 x3 G (-2) else bnd (G 101 5) (fun x4_12 => bnd (up2 G 101 5 x3) (fun G13 => j_X11_set_164 x1 x2 x3 G13 x4_12)))) else j_X11_set_133 x1 x2 x3 G (-2))))))
theorem kyX11_set : Ky yX11_set cX11_set 5 (some FieldType.int) 3 := ⟨u2_215, u1_1, by decide, by decide, by decide, by decide +kernel⟩
set_option maxHeartbeats 4000000 in
set_option maxRecDepth 100000 in
theorem c_X11_set (l : Launch) (D : va_G) (K : List Nat) (sh : Nat → Ent) (ad : Nat → Nat) (cy : Nat → ClassId) (X : va_W) (B : State → Prop) (hcl : Bcl (AS K ad X) B) (S : Nat → Nat) (hE : HC S K sh) (G : Mem) (L : MemL) (O : MemO) (x1 : Int32) (x2 : Int32) (x3 : Int32) {Gz : Mem} {vz : Int32} (hf : f_X11_set G x1 x2 x3 = some (Gz, vz)) : Met l yX11_set (wsU yX11_set cX11_set 5 (some FieldType.int)) (rmX 3 0 0) (va_Pc [.ref (ad 100), .int x1, .int x2, .int x3] (PS D K sh ad cy X B G L O)) (QI (AS K ad X) (PH D K sh ad cy X Gz L O) vz) 0 0 (AS K ad X) := by
  refine s_met (by decide) (Nat.le_of_ble_eq_true rfl) ?_
  intro p e s m args below meth c ls H locs E hK hBs hnm hI hl
  have hl : lv_has ls 5 [(0, .ref (ad 100)), (1, .int x1), (2, .int x2), (3, .int x3)] := hl
  have E : Cx p s m args meth c RX11 cX11_set 5 (some FieldType.int) := E
  obtain ⟨hx, hb, hr, hml, hown, hu, hlocks⟩ := id E
  have B164 : ∀    (G : Mem) (x4 : Int32) (H : Heap) (locs : List Loc) (ls : Array Slot), lv_has ls 5 [(4, .int x4)] → IS D K sh ad cy X (AS K ad X) s.heap H locs G L O → j_X11_set_164 x1 x2 x3 G x4 = some (Gz, vz) → W p l e (rmX 3 0 0) s m args below meth c H locs 0 0 (MQ below (QI (AS K ad X) (PH D K sh ad cy X Gz L O) vz) args s 0 0 (AS K ad X)) (F0 m 164 ls []) := by
    intro  G x4 H locs ls hl hI hf
    rw [j_X11_set_164] at hf
    refine lv_iload hx hb dX11_set_164 (lv_at hl 0 rfl) ?_
    cases hf
    exact s_iret hx hb hr hI.2.2 hI.1 hlocks dX11_set_166
  have B133 : ∀    (G : Mem) (x4 : Int32) (H : Heap) (locs : List Loc) (ls : Array Slot), lv_has ls 5 [(0, .ref (ad 100)), (1, .int x1), (3, .int x3), (4, .int x4)] → IS D K sh ad cy X (AS K ad X) s.heap H locs G L O → j_X11_set_133 x1 x2 x3 G x4 = some (Gz, vz) → W p l e (rmX 3 0 0) s m args below meth c H locs 0 0 (MQ below (QI (AS K ad X) (PH D K sh ad cy X Gz L O) vz) args s 0 0 (AS K ad X)) (F0 m 133 ls []) := by
    intro  G x4 H locs ls hl hI hf
    rw [j_X11_set_133] at hf
    refine lv_iload_n hx hb dX11_set_133 rfl (lv_at hl 1 rfl) ?_
    refine lv_iconst (v := 5) hx hb dX11_set_134 (by decide) ?_
    refine lv_icmp_ne (tgt := 164) hx hb dX11_set_135 (by decide) (fun c6 => ?_) (fun c6 => ?_)
    · have hf := ite_f c6 hf
      exact B164    G x4 H locs ls (lv_sub hl [3] rfl) hI hf
    · have hf := ite_t c6 hf
      refine lv_iload_n hx hb dX11_set_138 rfl (lv_at hl 2 rfl) ?_
      refine lv_bipush (v := 6) hx hb dX11_set_139 (by decide) ?_
      refine s_cSP (np := 2) (rest := []) E (c_X11_outside l x3 6 rfl) kyX11_outside u2_219 u2_220 (by decide) rfl hl.1 rfl (Nat.le_of_ble_eq_true rfl) ⟨Nat.zero_le _, Nat.zero_le _⟩ dX11_set_141 ?_
      refine lv_if_ne (tgt := 164) hx hb dX11_set_144 (by decide) (fun c7 => ?_) (fun c7 => ?_)
      · have hf := ite_f c7 hf
        exact B164    G x4 H locs ls (lv_sub hl [3] rfl) hI hf
      · have hf := ite_t c7 hf
        refine lv_aload_n hx hb dX11_set_147 rfl (lv_at hl 0 rfl) ?_
        refine s_get (v := .ref (ad 101)) hx hb hu inU11 hown hK hI (mE hE.1 eC_100) rfl 0 (by decide) u2_175 (fun _ h => h) rfl rfl dX11_set_148 ?_
        refine s_get (v := .int (G 101 6)) hx hb hu inU4 hown hK hI (mE hE.1 eC_101) rfl 6 (by decide) u1_59 (fun _ h => h) rfl rfl dX11_set_151 ?_
        obtain ⟨x4_8, ex4_8, hf⟩ := bnd_i hf
        refine s_nmI ex4_8 ?_
        refine lv_istore (lv' := [(4, .int x4_8), (0, .ref (ad 100)), (1, .int x1), (3, .int x3)]) hx hb dX11_set_154 hl (by decide) rfl (fun ls hl => ?_)
        refine lv_aload_n hx hb dX11_set_156 rfl (lv_at hl 1 rfl) ?_
        refine s_get (v := .ref (ad 101)) hx hb hu inU11 hown hK hI (mE hE.1 eC_100) rfl 0 (by decide) u2_175 (fun _ h => h) rfl rfl dX11_set_157 ?_
        refine lv_iload_n hx hb dX11_set_160 rfl (lv_at hl 3 rfl) ?_
        obtain ⟨G9, eG9, hf⟩ := bnd_i hf
        refine s_put (ty := .int) hx hb hu inU4 tyX4_ok nmX4 hown hK hI (mE hE.1 eC_101) rfl 6 (by decide) u1_59 (fun _ h => h) rfl rfl (tyX4_ok 6 (by decide)) rfl rfl eG9 dX11_set_161 (fun H locs hI => ?_)
        exact B164    G9 x4_8 H locs ls (lv_sub hl [0] rfl) hI hf
  rw [f_X11_set] at hf
  refine lv_bipush (v := (-2)) hx hb dX11_set_0 (by decide) ?_
  refine lv_istore (lv' := [(4, .int (-2)), (0, .ref (ad 100)), (1, .int x1), (2, .int x2), (3, .int x3)]) hx hb dX11_set_2 hl (by decide) rfl (fun ls hl => ?_)
  refine lv_iload_n hx hb dX11_set_4 rfl (lv_at hl 2 rfl) ?_
  refine lv_if_ne (tgt := 27) hx hb dX11_set_5 (by decide) (fun c1 => ?_) (fun c1 => ?_)
  · have hf := ite_f c1 hf
    refine lv_iload_n hx hb dX11_set_27 rfl (lv_at hl 2 rfl) ?_
    refine lv_iconst (v := 1) hx hb dX11_set_28 (by decide) ?_
    refine lv_icmp_ne (tgt := 50) hx hb dX11_set_29 (by decide) (fun c2 => ?_) (fun c2 => ?_)
    · have hf := ite_f c2 hf
      refine lv_iload_n hx hb dX11_set_50 rfl (lv_at hl 2 rfl) ?_
      refine lv_iconst (v := 2) hx hb dX11_set_51 (by decide) ?_
      refine lv_icmp_ne (tgt := 73) hx hb dX11_set_52 (by decide) (fun c3 => ?_) (fun c3 => ?_)
      · have hf := ite_f c3 hf
        refine lv_iload_n hx hb dX11_set_73 rfl (lv_at hl 2 rfl) ?_
        refine lv_iconst (v := 3) hx hb dX11_set_74 (by decide) ?_
        refine lv_icmp_ne (tgt := 97) hx hb dX11_set_75 (by decide) (fun c4 => ?_) (fun c4 => ?_)
        · have hf := ite_f c4 hf
          refine lv_iload_n hx hb dX11_set_97 rfl (lv_at hl 2 rfl) ?_
          refine lv_iconst (v := 4) hx hb dX11_set_98 (by decide) ?_
          refine lv_icmp_ne (tgt := 133) hx hb dX11_set_99 (by decide) (fun c5 => ?_) (fun c5 => ?_)
          · have hf := ite_f c5 hf
            exact B133    G (-2) H locs ls (lv_sub hl [1, 2, 4, 0] rfl) hI hf
          · have hf := ite_t c5 hf
            refine lv_iload_n hx hb dX11_set_102 rfl (lv_at hl 4 rfl) ?_
            refine lv_iconst (v := 1) hx hb dX11_set_103 (by decide) ?_
            refine lv_icmp_lt (tgt := 133) hx hb dX11_set_104 (by decide) (fun c10 => ?_) (fun c10 => ?_)
            · have hf := ite_t c10 hf
              exact B133    G (-2) H locs ls (lv_sub hl [1, 2, 4, 0] rfl) hI hf
            · have hf := ite_f c10 hf
              refine lv_iload_n hx hb dX11_set_107 rfl (lv_at hl 4 rfl) ?_
              refine lv_bipush (v := 48) hx hb dX11_set_108 (by decide) ?_
              refine lv_icmp_gt (tgt := 133) hx hb dX11_set_110 (by decide) (fun c11 => ?_) (fun c11 => ?_)
              · have hf := ite_t c11 hf
                exact B133    G (-2) H locs ls (lv_sub hl [1, 2, 4, 0] rfl) hI hf
              · have hf := ite_f c11 hf
                refine lv_aload_n hx hb dX11_set_113 rfl (lv_at hl 1 rfl) ?_
                refine s_get (v := .ref (ad 101)) hx hb hu inU11 hown hK hI (mE hE.1 eC_100) rfl 0 (by decide) u2_175 (fun _ h => h) rfl rfl dX11_set_114 ?_
                refine s_get (v := .int (G 101 5)) hx hb hu inU4 hown hK hI (mE hE.1 eC_101) rfl 5 (by decide) u1_56 (fun _ h => h) rfl rfl dX11_set_117 ?_
                obtain ⟨x4_12, ex4_12, hf⟩ := bnd_i hf
                refine s_nmI ex4_12 ?_
                refine lv_istore (lv' := [(4, .int x4_12), (0, .ref (ad 100)), (1, .int x1), (2, .int x2), (3, .int x3)]) hx hb dX11_set_120 hl (by decide) rfl (fun ls hl => ?_)
                refine lv_aload_n hx hb dX11_set_122 rfl (lv_at hl 1 rfl) ?_
                refine s_get (v := .ref (ad 101)) hx hb hu inU11 hown hK hI (mE hE.1 eC_100) rfl 0 (by decide) u2_175 (fun _ h => h) rfl rfl dX11_set_123 ?_
                refine lv_iload_n hx hb dX11_set_126 rfl (lv_at hl 4 rfl) ?_
                obtain ⟨G13, eG13, hf⟩ := bnd_i hf
                refine s_put (ty := .int) hx hb hu inU4 tyX4_ok nmX4 hown hK hI (mE hE.1 eC_101) rfl 5 (by decide) u1_56 (fun _ h => h) rfl rfl (tyX4_ok 5 (by decide)) rfl rfl eG13 dX11_set_127 (fun H locs hI => ?_)
                refine lv_goto (tgt := 164) hx hb dX11_set_130 (by decide) ?_
                exact B164    G13 x4_12 H locs ls (lv_sub hl [0] rfl) hI hf
        · have hf := ite_t c4 hf
          refine lv_aload_n hx hb dX11_set_78 rfl (lv_at hl 1 rfl) ?_
          refine s_get (v := .ref (ad 101)) hx hb hu inU11 hown hK hI (mE hE.1 eC_100) rfl 0 (by decide) u2_175 (fun _ h => h) rfl rfl dX11_set_79 ?_
          refine s_get (v := .ref (ad 105)) hx hb hu inU4 hown hK hI (mE hE.1 eC_101) rfl 3 (by decide) u1_50 (fun _ h => h) rfl rfl dX11_set_82 ?_
          refine lv_iload_n hx hb dX11_set_85 rfl (lv_at hl 3 rfl) ?_
          refine lv_iload_n hx hb dX11_set_86 rfl (lv_at hl 4 rfl) ?_
          refine lv_bipush (v := 10) hx hb dX11_set_87 (by decide) ?_
          obtain ⟨G14, v15, h16, hf⟩ := bndP_i hf
          refine s_afI hI (s_runS (rest := []) (np := 4) E hK hI (s_B hcl hBs hI) hcl.2 (c_X11_change l D K sh ad cy X B hcl S hE 105 4 (mE hE.1 eC_105) G L O x2 x3 10 h16) kyX11_change u2_216 u2_217 (by decide) rfl hl.1 rfl (Nat.le_of_ble_eq_true rfl) ⟨Nat.zero_le _, Nat.zero_le _⟩ dX11_set_89) (fun H locs hI => ?_)
          refine lv_istore (lv' := [(4, .int v15), (0, .ref (ad 100)), (1, .int x1), (2, .int x2), (3, .int x3)]) hx hb dX11_set_92 hl (by decide) rfl (fun ls hl => ?_)
          refine lv_goto (tgt := 164) hx hb dX11_set_94 (by decide) ?_
          exact B164    G14 v15 H locs ls (lv_sub hl [0] rfl) hI hf
      · have hf := ite_t c3 hf
        refine lv_aload_n hx hb dX11_set_55 rfl (lv_at hl 1 rfl) ?_
        refine s_get (v := .ref (ad 101)) hx hb hu inU11 hown hK hI (mE hE.1 eC_100) rfl 0 (by decide) u2_175 (fun _ h => h) rfl rfl dX11_set_56 ?_
        refine s_get (v := .ref (ad 104)) hx hb hu inU4 hown hK hI (mE hE.1 eC_101) rfl 2 (by decide) u1_47 (fun _ h => h) rfl rfl dX11_set_59 ?_
        refine lv_iload_n hx hb dX11_set_62 rfl (lv_at hl 3 rfl) ?_
        refine lv_iload_n hx hb dX11_set_63 rfl (lv_at hl 4 rfl) ?_
        refine lv_iconst (v := 2) hx hb dX11_set_64 (by decide) ?_
        obtain ⟨G17, v18, h19, hf⟩ := bndP_i hf
        refine s_afI hI (s_runS (rest := []) (np := 4) E hK hI (s_B hcl hBs hI) hcl.2 (c_X11_change l D K sh ad cy X B hcl S hE 104 48 (mE hE.1 eC_104) G L O x2 x3 2 h19) kyX11_change u2_216 u2_217 (by decide) rfl hl.1 rfl (Nat.le_of_ble_eq_true rfl) ⟨Nat.zero_le _, Nat.zero_le _⟩ dX11_set_65) (fun H locs hI => ?_)
        refine lv_istore (lv' := [(4, .int v18), (0, .ref (ad 100)), (1, .int x1), (2, .int x2), (3, .int x3)]) hx hb dX11_set_68 hl (by decide) rfl (fun ls hl => ?_)
        refine lv_goto (tgt := 164) hx hb dX11_set_70 (by decide) ?_
        exact B164    G17 v18 H locs ls (lv_sub hl [0] rfl) hI hf
    · have hf := ite_t c2 hf
      refine lv_aload_n hx hb dX11_set_32 rfl (lv_at hl 1 rfl) ?_
      refine s_get (v := .ref (ad 101)) hx hb hu inU11 hown hK hI (mE hE.1 eC_100) rfl 0 (by decide) u2_175 (fun _ h => h) rfl rfl dX11_set_33 ?_
      refine s_get (v := .ref (ad 103)) hx hb hu inU4 hown hK hI (mE hE.1 eC_101) rfl 1 (by decide) u1_44 (fun _ h => h) rfl rfl dX11_set_36 ?_
      refine lv_iload_n hx hb dX11_set_39 rfl (lv_at hl 3 rfl) ?_
      refine lv_iload_n hx hb dX11_set_40 rfl (lv_at hl 4 rfl) ?_
      refine lv_iconst (v := 2) hx hb dX11_set_41 (by decide) ?_
      obtain ⟨G20, v21, h22, hf⟩ := bndP_i hf
      refine s_afI hI (s_runS (rest := []) (np := 4) E hK hI (s_B hcl hBs hI) hcl.2 (c_X11_change l D K sh ad cy X B hcl S hE 103 48 (mE hE.1 eC_103) G L O x2 x3 2 h22) kyX11_change u2_216 u2_217 (by decide) rfl hl.1 rfl (Nat.le_of_ble_eq_true rfl) ⟨Nat.zero_le _, Nat.zero_le _⟩ dX11_set_42) (fun H locs hI => ?_)
      refine lv_istore (lv' := [(4, .int v21), (0, .ref (ad 100)), (1, .int x1), (2, .int x2), (3, .int x3)]) hx hb dX11_set_45 hl (by decide) rfl (fun ls hl => ?_)
      refine lv_goto (tgt := 164) hx hb dX11_set_47 (by decide) ?_
      exact B164    G20 v21 H locs ls (lv_sub hl [0] rfl) hI hf
  · have hf := ite_t c1 hf
    refine lv_aload_n hx hb dX11_set_8 rfl (lv_at hl 1 rfl) ?_
    refine s_get (v := .ref (ad 101)) hx hb hu inU11 hown hK hI (mE hE.1 eC_100) rfl 0 (by decide) u2_175 (fun _ h => h) rfl rfl dX11_set_9 ?_
    refine s_get (v := .ref (ad 102)) hx hb hu inU4 hown hK hI (mE hE.1 eC_101) rfl 0 (by decide) u1_41 (fun _ h => h) rfl rfl dX11_set_12 ?_
    refine lv_iload_n hx hb dX11_set_15 rfl (lv_at hl 3 rfl) ?_
    refine lv_iload_n hx hb dX11_set_16 rfl (lv_at hl 4 rfl) ?_
    refine lv_bipush (v := 10) hx hb dX11_set_17 (by decide) ?_
    obtain ⟨G23, v24, h25, hf⟩ := bndP_i hf
    refine s_afI hI (s_runS (rest := []) (np := 4) E hK hI (s_B hcl hBs hI) hcl.2 (c_X11_change l D K sh ad cy X B hcl S hE 102 48 (mE hE.1 eC_102) G L O x2 x3 10 h25) kyX11_change u2_216 u2_217 (by decide) rfl hl.1 rfl (Nat.le_of_ble_eq_true rfl) ⟨Nat.zero_le _, Nat.zero_le _⟩ dX11_set_19) (fun H locs hI => ?_)
    refine lv_istore (lv' := [(4, .int v24), (0, .ref (ad 100)), (1, .int x1), (2, .int x2), (3, .int x3)]) hx hb dX11_set_22 hl (by decide) rfl (fun ls hl => ?_)
    refine lv_goto (tgt := 164) hx hb dX11_set_24 (by decide) ?_
    exact B164    G23 v24 H locs ls (lv_sub hl [0] rfl) hI hf
noncomputable def f_X11_voice (G : Mem) (x1 : Int32) (x2 : Int32) : Option (Mem × Int32) := (if (f_X11_outside x1 (G 100 4)) = 0 then bndP (f_X11_change G 106 10 x1 x2 4) (fun G2 v3 => some (G2, v3)) else some (G, (-2)))
theorem kyX11_voice : Ky yX11_voice cX11_voice 3 (some FieldType.int) 2 := ⟨u3_63, u1_1, by decide, by decide, by decide, by decide +kernel⟩
set_option maxHeartbeats 4000000 in
set_option maxRecDepth 100000 in
theorem c_X11_voice (l : Launch) (D : va_G) (K : List Nat) (sh : Nat → Ent) (ad : Nat → Nat) (cy : Nat → ClassId) (X : va_W) (B : State → Prop) (hcl : Bcl (AS K ad X) B) (S : Nat → Nat) (hE : HC S K sh) (G : Mem) (L : MemL) (O : MemO) (x1 : Int32) (x2 : Int32) {Gz : Mem} {vz : Int32} (hf : f_X11_voice G x1 x2 = some (Gz, vz)) : Met l yX11_voice (wsU yX11_voice cX11_voice 3 (some FieldType.int)) (rmX 3 0 0) (va_Pc [.ref (ad 100), .int x1, .int x2] (PS D K sh ad cy X B G L O)) (QI (AS K ad X) (PH D K sh ad cy X Gz L O) vz) 0 0 (AS K ad X) := by
  refine s_met (by decide) (Nat.le_of_ble_eq_true rfl) ?_
  intro p e s m args below meth c ls H locs E hK hBs hnm hI hl
  have hl : lv_has ls 3 [(0, .ref (ad 100)), (1, .int x1), (2, .int x2)] := hl
  have E : Cx p s m args meth c RX11 cX11_voice 3 (some FieldType.int) := E
  obtain ⟨hx, hb, hr, hml, hown, hu, hlocks⟩ := id E
  rw [f_X11_voice] at hf
  refine lv_iload_n hx hb dX11_voice_0 rfl (lv_at hl 1 rfl) ?_
  refine lv_aload_n hx hb dX11_voice_1 rfl (lv_at hl 0 rfl) ?_
  refine s_get (v := .int (G 100 4)) hx hb hu inU11 hown hK hI (mE hE.1 eC_100) rfl 4 (by decide) u2_179 (fun _ h => h) rfl rfl dX11_voice_2 ?_
  refine s_cSP (np := 2) (rest := []) E (c_X11_outside l x1 (G 100 4) rfl) kyX11_outside u2_219 u2_220 (by decide) rfl hl.1 rfl (Nat.le_of_ble_eq_true rfl) ⟨Nat.zero_le _, Nat.zero_le _⟩ dX11_voice_5 ?_
  refine lv_if_eq (tgt := 14) hx hb dX11_voice_8 (by decide) (fun c1 => ?_) (fun c1 => ?_)
  · have hf := ite_t c1 hf
    refine lv_aload_n hx hb dX11_voice_14 rfl (lv_at hl 0 rfl) ?_
    refine s_get (v := .ref (ad 101)) hx hb hu inU11 hown hK hI (mE hE.1 eC_100) rfl 0 (by decide) u2_175 (fun _ h => h) rfl rfl dX11_voice_15 ?_
    refine s_get (v := .ref (ad 106)) hx hb hu inU4 hown hK hI (mE hE.1 eC_101) rfl 4 (by decide) u1_53 (fun _ h => h) rfl rfl dX11_voice_18 ?_
    refine lv_iload_n hx hb dX11_voice_21 rfl (lv_at hl 1 rfl) ?_
    refine lv_iload_n hx hb dX11_voice_22 rfl (lv_at hl 2 rfl) ?_
    refine lv_iconst (v := 4) hx hb dX11_voice_23 (by decide) ?_
    obtain ⟨G2, v3, h4, hf⟩ := bndP_i hf
    refine s_afI hI (s_runS (rest := []) (np := 4) E hK hI (s_B hcl hBs hI) hcl.2 (c_X11_change l D K sh ad cy X B hcl S hE 106 10 (mE hE.1 eC_106) G L O x1 x2 4 h4) kyX11_change u2_216 u2_217 (by decide) rfl hl.1 rfl (Nat.le_of_ble_eq_true rfl) ⟨Nat.zero_le _, Nat.zero_le _⟩ dX11_voice_24) (fun H locs hI => ?_)
    cases hf
    exact s_iret hx hb hr hI.2.2 hI.1 hlocks dX11_voice_27
  · have hf := ite_f c1 hf
    refine lv_bipush (v := (-2)) hx hb dX11_voice_11 (by decide) ?_
    cases hf
    exact s_iret hx hb hr hI.2.2 hI.1 hlocks dX11_voice_13
noncomputable def f_X11_told (G : Mem) (O : MemO) (S : Nat → Nat) (x1 : Int32) (x2 : Int32) (x3 : Int32) (x4 : Int32) : Option (Int32) := (if (f_X11_outside x1 (G 100 4)) = 0 then (if (f_X11_outside x2 49) = 0 then (if (f_X11_outside x3 48) = 0 then chk (inB x1 10) (bndO (O 113 x1.toNatClampNeg) (fun e5 => chk (sgE S e5) (chk (inB x3 48) (bnd (G 102 x3.toNatClampNeg) (fun x6_9 => (if x4 = 0 then some (f_Dkind S e5) else if x4 = 1 then chk (inB x1 10) (some (G 106 x1.toNatClampNeg)) else if x4 = 2 then some (f_DcanHold G S e5 x6_9 x2) else if x4 = 3 then some (f_DsilentSteps G S e5 x2) else if x4 = 4 then some (f_X11_truth (f_Dsays G S e5 x6_9)) else if x4 = 5 then some (G e5 0) else some (-2))))))) else some (-2)) else some (-2)) else some (-2))
theorem kyX11_told : Ky yX11_told cX11_told 7 (some FieldType.int) 4 := ⟨u3_67, u1_1, by decide, by decide, by decide, by decide +kernel⟩
set_option maxHeartbeats 4000000 in
set_option maxRecDepth 100000 in
theorem c_X11_told (l : Launch) (D : va_G) (K : List Nat) (sh : Nat → Ent) (ad : Nat → Nat) (cy : Nat → ClassId) (X : va_W) (B : State → Prop) (hcl : Bcl (AS K ad X) B) (S : Nat → Nat) (hE : HC S K sh) (G : Mem) (L : MemL) (O : MemO) (x1 : Int32) (x2 : Int32) (x3 : Int32) (x4 : Int32)  {vz : Int32} (hf : f_X11_told G O S x1 x2 x3 x4 = some vz) : Met l yX11_told (wsU yX11_told cX11_told 7 (some FieldType.int)) (rmX 5 0 0) (va_Pc [.ref (ad 100), .int x1, .int x2, .int x3, .int x4] (PS D K sh ad cy X B G L O)) (QI (AS K ad X) (PH D K sh ad cy X G L O) vz) 0 0 (AS K ad X) := by
  refine s_met (by decide) (Nat.le_of_ble_eq_true rfl) ?_
  intro p e s m args below meth c ls H locs E hK hBs hnm hI hl
  have hl : lv_has ls 7 [(0, .ref (ad 100)), (1, .int x1), (2, .int x2), (3, .int x3), (4, .int x4)] := hl
  have E : Cx p s m args meth c RX11 cX11_told 7 (some FieldType.int) := E
  obtain ⟨hx, hb, hr, hml, hown, hu, hlocks⟩ := id E
  rw [f_X11_told] at hf
  refine lv_iload_n hx hb dX11_told_0 rfl (lv_at hl 1 rfl) ?_
  refine lv_aload_n hx hb dX11_told_1 rfl (lv_at hl 0 rfl) ?_
  refine s_get (v := .int (G 100 4)) hx hb hu inU11 hown hK hI (mE hE.1 eC_100) rfl 4 (by decide) u2_179 (fun _ h => h) rfl rfl dX11_told_2 ?_
  refine s_cSP (np := 2) (rest := []) E (c_X11_outside l x1 (G 100 4) rfl) kyX11_outside u2_219 u2_220 (by decide) rfl hl.1 rfl (Nat.le_of_ble_eq_true rfl) ⟨Nat.zero_le _, Nat.zero_le _⟩ dX11_told_5 ?_
  refine lv_if_ne (tgt := 29) hx hb dX11_told_8 (by decide) (fun c1 => ?_) (fun c1 => ?_)
  · have hf := ite_f c1 hf
    refine lv_bipush (v := (-2)) hx hb dX11_told_29 (by decide) ?_
    cases hf
    exact s_iret hx hb hr hI.2.2 hI.1 hlocks dX11_told_31
  · have hf := ite_t c1 hf
    refine lv_iload_n hx hb dX11_told_11 rfl (lv_at hl 2 rfl) ?_
    refine lv_bipush (v := 49) hx hb dX11_told_12 (by decide) ?_
    refine s_cSP (np := 2) (rest := []) E (c_X11_outside l x2 49 rfl) kyX11_outside u2_219 u2_220 (by decide) rfl hl.1 rfl (Nat.le_of_ble_eq_true rfl) ⟨Nat.zero_le _, Nat.zero_le _⟩ dX11_told_14 ?_
    refine lv_if_ne (tgt := 29) hx hb dX11_told_17 (by decide) (fun c2 => ?_) (fun c2 => ?_)
    · have hf := ite_f c2 hf
      refine lv_bipush (v := (-2)) hx hb dX11_told_29 (by decide) ?_
      cases hf
      exact s_iret hx hb hr hI.2.2 hI.1 hlocks dX11_told_31
    · have hf := ite_t c2 hf
      refine lv_iload_n hx hb dX11_told_20 rfl (lv_at hl 3 rfl) ?_
      refine lv_bipush (v := 48) hx hb dX11_told_21 (by decide) ?_
      refine s_cSP (np := 2) (rest := []) E (c_X11_outside l x3 48 rfl) kyX11_outside u2_219 u2_220 (by decide) rfl hl.1 rfl (Nat.le_of_ble_eq_true rfl) ⟨Nat.zero_le _, Nat.zero_le _⟩ dX11_told_23 ?_
      refine lv_if_eq (tgt := 32) hx hb dX11_told_26 (by decide) (fun c3 => ?_) (fun c3 => ?_)
      · have hf := ite_t c3 hf
        refine lv_aload_n hx hb dX11_told_32 rfl (lv_at hl 0 rfl) ?_
        refine s_get (v := .ref (ad 113)) hx hb hu inU11 hown hK hI (mE hE.1 eC_100) rfl 3 (by decide) u2_178 (fun _ h => h) rfl rfl dX11_told_33 ?_
        refine lv_iload_n hx hb dX11_told_36 rfl (lv_at hl 1 rfl) ?_
        obtain ⟨h4, hf⟩ := chk_i hf
        obtain ⟨e5, h6, hf⟩ := bndO_i hf
        obtain ⟨h7, hf⟩ := chk_i hf
        refine s_ald (t := 6) (t0 := 5) (by decide) rfl hx hb hK hI (mE hE.1 eC_113) (inB_i h4) dX11_told_37 ?_
        refine s_nmO h6 ?_
        refine lv_astore (lv' := [(5, .ref (ad e5)), (0, .ref (ad 100)), (1, .int x1), (2, .int x2), (3, .int x3), (4, .int x4)]) hx hb dX11_told_38 hl (by decide) rfl (fun ls hl => ?_)
        refine lv_aload_n hx hb dX11_told_40 rfl (lv_at hl 1 rfl) ?_
        refine s_get (v := .ref (ad 101)) hx hb hu inU11 hown hK hI (mE hE.1 eC_100) rfl 0 (by decide) u2_175 (fun _ h => h) rfl rfl dX11_told_41 ?_
        refine s_get (v := .ref (ad 102)) hx hb hu inU4 hown hK hI (mE hE.1 eC_101) rfl 0 (by decide) u1_41 (fun _ h => h) rfl rfl dX11_told_44 ?_
        refine lv_iload_n hx hb dX11_told_47 rfl (lv_at hl 4 rfl) ?_
        obtain ⟨h8, hf⟩ := chk_i hf
        refine s_ild hx hb hK hI (mE hE.1 eC_102) (inB_i h8) dX11_told_48 ?_
        obtain ⟨x6_9, ex6_9, hf⟩ := bnd_i hf
        refine s_nmI ex6_9 ?_
        refine lv_istore (lv' := [(6, .int x6_9), (5, .ref (ad e5)), (0, .ref (ad 100)), (1, .int x1), (2, .int x2), (3, .int x3), (4, .int x4)]) hx hb dX11_told_49 hl (by decide) rfl (fun ls hl => ?_)
        refine lv_iload hx hb dX11_told_51 (lv_at hl 6 rfl) ?_
        by_cases c10 : x4 = 0
        · have hf := ite_t c10 hf
          refine s_tbl (tgt := 92) 0 E dX11_told_53 c10 (by decide) (by decide) rfl (by decide) ?_
          refine lv_aload hx hb dX11_told_92 (lv_at hl 1 rfl) ?_
          refine s_afI hI (r_RX11_132 l D K sh ad cy X B hcl S e5 (⟨hE.2.1 _ h7, h7⟩)  E hK hI (s_B hcl hBs hI) (by decide) hl.1 (Nat.le_of_ble_eq_true rfl) dX11_told_94) (fun H locs hI => ?_)
          cases hf
          exact s_iret hx hb hr hI.2.2 hI.1 hlocks dX11_told_97
        · have hf := ite_f c10 hf
          by_cases c11 : x4 = 1
          · have hf := ite_t c11 hf
            refine s_tbl (tgt := 98) 1 E dX11_told_53 c11 (by decide) (by decide) rfl (by decide) ?_
            refine lv_aload_n hx hb dX11_told_98 rfl (lv_at hl 2 rfl) ?_
            refine s_get (v := .ref (ad 101)) hx hb hu inU11 hown hK hI (mE hE.1 eC_100) rfl 0 (by decide) u2_175 (fun _ h => h) rfl rfl dX11_told_99 ?_
            refine s_get (v := .ref (ad 106)) hx hb hu inU4 hown hK hI (mE hE.1 eC_101) rfl 4 (by decide) u1_53 (fun _ h => h) rfl rfl dX11_told_102 ?_
            refine lv_iload_n hx hb dX11_told_105 rfl (lv_at hl 3 rfl) ?_
            obtain ⟨h12, hf⟩ := chk_i hf
            refine s_ild hx hb hK hI (mE hE.1 eC_106) (inB_i h12) dX11_told_106 ?_
            cases hf
            exact s_iret hx hb hr hI.2.2 hI.1 hlocks dX11_told_107
          · have hf := ite_f c11 hf
            by_cases c13 : x4 = 2
            · have hf := ite_t c13 hf
              refine s_tbl (tgt := 108) 2 E dX11_told_53 c13 (by decide) (by decide) rfl (by decide) ?_
              refine lv_aload hx hb dX11_told_108 (lv_at hl 1 rfl) ?_
              refine lv_iload hx hb dX11_told_110 (lv_at hl 0 rfl) ?_
              refine lv_iload_n hx hb dX11_told_112 rfl (lv_at hl 4 rfl) ?_
              refine s_afI hI (r_RX11_135 l D K sh ad cy X B hcl S e5 (⟨hE.2.1 _ h7, h7⟩) x6_9 x2 E hK hI (s_B hcl hBs hI) (by decide) hl.1 (Nat.le_of_ble_eq_true rfl) dX11_told_113) (fun H locs hI => ?_)
              cases hf
              exact s_iret hx hb hr hI.2.2 hI.1 hlocks dX11_told_116
            · have hf := ite_f c13 hf
              by_cases c14 : x4 = 3
              · have hf := ite_t c14 hf
                refine s_tbl (tgt := 117) 3 E dX11_told_53 c14 (by decide) (by decide) rfl (by decide) ?_
                refine lv_aload hx hb dX11_told_117 (lv_at hl 1 rfl) ?_
                refine lv_iload_n hx hb dX11_told_119 rfl (lv_at hl 4 rfl) ?_
                refine s_afI hI (r_RX11_139 l D K sh ad cy X B hcl S e5 (⟨hE.2.1 _ h7, h7⟩) x2 E hK hI (s_B hcl hBs hI) (by decide) hl.1 (Nat.le_of_ble_eq_true rfl) dX11_told_120) (fun H locs hI => ?_)
                cases hf
                exact s_iret hx hb hr hI.2.2 hI.1 hlocks dX11_told_123
              · have hf := ite_f c14 hf
                by_cases c15 : x4 = 4
                · have hf := ite_t c15 hf
                  refine s_tbl (tgt := 124) 4 E dX11_told_53 c15 (by decide) (by decide) rfl (by decide) ?_
                  refine lv_aload hx hb dX11_told_124 (lv_at hl 1 rfl) ?_
                  refine lv_iload hx hb dX11_told_126 (lv_at hl 0 rfl) ?_
                  refine s_afI hI (r_RX11_143 l D K sh ad cy X B hcl S e5 (⟨hE.2.1 _ h7, h7⟩) x6_9 E hK hI (s_B hcl hBs hI) (by decide) hl.1 (Nat.le_of_ble_eq_true rfl) dX11_told_128) (fun H locs hI => ?_)
                  refine s_cSP (np := 1) (rest := []) E (c_X11_truth l (f_Dsays G S e5 x6_9) rfl) kyX11_truth u3_162 u3_138 (by decide) rfl hl.1 rfl (Nat.le_of_ble_eq_true rfl) ⟨Nat.zero_le _, Nat.zero_le _⟩ dX11_told_131 ?_
                  cases hf
                  exact s_iret hx hb hr hI.2.2 hI.1 hlocks dX11_told_134
                · have hf := ite_f c15 hf
                  by_cases c16 : x4 = 5
                  · have hf := ite_t c16 hf
                    refine s_tbl (tgt := 135) 5 E dX11_told_53 c16 (by decide) (by decide) rfl (by decide) ?_
                    refine lv_aload hx hb dX11_told_135 (lv_at hl 1 rfl) ?_
                    refine s_getSg hx hb hu hown hK hI (⟨hE.2.1 _ h7, h7⟩) 0 (by decide) u2_239 (fun _ h => h) dX11_told_137 ?_
                    cases hf
                    exact s_iret hx hb hr hI.2.2 hI.1 hlocks dX11_told_140
                  · have hf := ite_f c16 hf
                    refine lv_tableOut (tgt := 141) hx hb dX11_told_53 (by have q0 := lv_neT c10 (show (0 : Int32).toInt = 0 from rfl); have q1 := lv_neT c11 (show (1 : Int32).toInt = 1 from rfl); have q2 := lv_neT c13 (show (2 : Int32).toInt = 2 from rfl); have q3 := lv_neT c14 (show (3 : Int32).toInt = 3 from rfl); have q4 := lv_neT c15 (show (4 : Int32).toInt = 4 from rfl); have q5 := lv_neT c16 (show (5 : Int32).toInt = 5 from rfl); omega) (by decide) ?_
                    refine lv_bipush (v := (-2)) hx hb dX11_told_141 (by decide) ?_
                    cases hf
                    exact s_iret hx hb hr hI.2.2 hI.1 hlocks dX11_told_143
      · have hf := ite_f c3 hf
        refine lv_bipush (v := (-2)) hx hb dX11_told_29 (by decide) ?_
        cases hf
        exact s_iret hx hb hr hI.2.2 hI.1 hlocks dX11_told_31
noncomputable def f_X11_force (G : Mem) (x1 : Int32) : Option (Mem × Int32) := (if (f_X11_outside x1 (G 100 7)) = 0 then bnd (G 101 7) (fun x2_2 => bnd (up2 G 101 7 x1) (fun G3 => some (G3, x2_2))) else some (G, (-2)))
theorem kyX11_force : Ky yX11_force cX11_force 3 (some FieldType.int) 1 := ⟨u3_174, u1_1, by decide, by decide, by decide, by decide +kernel⟩
set_option maxHeartbeats 4000000 in
set_option maxRecDepth 100000 in
theorem c_X11_force (l : Launch) (D : va_G) (K : List Nat) (sh : Nat → Ent) (ad : Nat → Nat) (cy : Nat → ClassId) (X : va_W) (B : State → Prop) (hcl : Bcl (AS K ad X) B) (S : Nat → Nat) (hE : HC S K sh) (G : Mem) (L : MemL) (O : MemO) (x1 : Int32) {Gz : Mem} {vz : Int32} (hf : f_X11_force G x1 = some (Gz, vz)) : Met l yX11_force (wsU yX11_force cX11_force 3 (some FieldType.int)) (rmX 2 0 0) (va_Pc [.ref (ad 100), .int x1] (PS D K sh ad cy X B G L O)) (QI (AS K ad X) (PH D K sh ad cy X Gz L O) vz) 0 0 (AS K ad X) := by
  refine s_met (by decide) (Nat.le_of_ble_eq_true rfl) ?_
  intro p e s m args below meth c ls H locs E hK hBs hnm hI hl
  have hl : lv_has ls 3 [(0, .ref (ad 100)), (1, .int x1)] := hl
  have E : Cx p s m args meth c RX11 cX11_force 3 (some FieldType.int) := E
  obtain ⟨hx, hb, hr, hml, hown, hu, hlocks⟩ := id E
  rw [f_X11_force] at hf
  refine lv_iload_n hx hb dX11_force_0 rfl (lv_at hl 1 rfl) ?_
  refine lv_aload_n hx hb dX11_force_1 rfl (lv_at hl 0 rfl) ?_
  refine s_get (v := .int (G 100 7)) hx hb hu inU11 hown hK hI (mE hE.1 eC_100) rfl 7 (by decide) u2_182 (fun _ h => h) rfl rfl dX11_force_2 ?_
  refine s_cSP (np := 2) (rest := []) E (c_X11_outside l x1 (G 100 7) rfl) kyX11_outside u2_219 u2_220 (by decide) rfl hl.1 rfl (Nat.le_of_ble_eq_true rfl) ⟨Nat.zero_le _, Nat.zero_le _⟩ dX11_force_5 ?_
  refine lv_if_eq (tgt := 14) hx hb dX11_force_8 (by decide) (fun c1 => ?_) (fun c1 => ?_)
  · have hf := ite_t c1 hf
    refine lv_aload_n hx hb dX11_force_14 rfl (lv_at hl 0 rfl) ?_
    refine s_get (v := .ref (ad 101)) hx hb hu inU11 hown hK hI (mE hE.1 eC_100) rfl 0 (by decide) u2_175 (fun _ h => h) rfl rfl dX11_force_15 ?_
    refine s_get (v := .int (G 101 7)) hx hb hu inU4 hown hK hI (mE hE.1 eC_101) rfl 7 (by decide) u1_62 (fun _ h => h) rfl rfl dX11_force_18 ?_
    obtain ⟨x2_2, ex2_2, hf⟩ := bnd_i hf
    refine s_nmI ex2_2 ?_
    refine lv_istore_n (lv' := [(2, .int x2_2), (0, .ref (ad 100)), (1, .int x1)]) hx hb dX11_force_21 rfl hl (by decide) rfl (fun ls hl => ?_)
    refine lv_aload_n hx hb dX11_force_22 rfl (lv_at hl 1 rfl) ?_
    refine s_get (v := .ref (ad 101)) hx hb hu inU11 hown hK hI (mE hE.1 eC_100) rfl 0 (by decide) u2_175 (fun _ h => h) rfl rfl dX11_force_23 ?_
    refine lv_iload_n hx hb dX11_force_26 rfl (lv_at hl 2 rfl) ?_
    obtain ⟨G3, eG3, hf⟩ := bnd_i hf
    refine s_put (ty := .int) hx hb hu inU4 tyX4_ok nmX4 hown hK hI (mE hE.1 eC_101) rfl 7 (by decide) u1_62 (fun _ h => h) rfl rfl (tyX4_ok 7 (by decide)) rfl rfl eG3 dX11_force_27 (fun H locs hI => ?_)
    refine lv_iload_n hx hb dX11_force_30 rfl (lv_at hl 0 rfl) ?_
    cases hf
    exact s_iret hx hb hr hI.2.2 hI.1 hlocks dX11_force_31
  · have hf := ite_f c1 hf
    refine lv_bipush (v := (-2)) hx hb dX11_force_11 (by decide) ?_
    cases hf
    exact s_iret hx hb hr hI.2.2 hI.1 hlocks dX11_force_13
noncomputable def f_X11_sing (G : Mem) (L : MemL) (O : MemO) (S : Nat → Nat) (x1 : Int32) (x2 : Int32) : Option (Mem × MemL × MemO × Int32) := (if (f_X11_outside x1 7) = 0 then (if (f_X11_outside x2 (G 101 5)) = 0 then bndO (f_X11_isMissing G O S x1) (fun v3 => (if v3 = 0 then bndP3 (f_X11_perform G L O S x1 x2) (fun G6 L7 O8 => some (G6, L7, O8, (G6 128 13))) else some (G, L, O, (-11)))) else some (G, L, O, (-2))) else some (G, L, O, (-2)))
theorem kyX11_sing : Ky yX11_sing cX11_sing 3 (some FieldType.int) 2 := ⟨u3_178, u1_1, by decide, by decide, by decide, by decide +kernel⟩
set_option maxHeartbeats 4000000 in
set_option maxRecDepth 100000 in
theorem c_X11_sing (l : Launch) (D : va_G) (K : List Nat) (sh : Nat → Ent) (ad : Nat → Nat) (cy : Nat → ClassId) (X : va_W) (B : State → Prop) (hcl : Bcl (AS K ad X) B) (S : Nat → Nat) (hE : HC S K sh) (G : Mem) (L : MemL) (O : MemO) (x1 : Int32) (x2 : Int32) {Gz : Mem} {Lz : MemL} {Oz : MemO} {vz : Int32} (hf : f_X11_sing G L O S x1 x2 = some (Gz, Lz, Oz, vz)) : Met l yX11_sing (wsU yX11_sing cX11_sing 3 (some FieldType.int)) (rmX 8 0 0) (va_Pc [.ref (ad 100), .int x1, .int x2] (PS D K sh ad cy X B G L O)) (QI (AS K ad X) (PH D K sh ad cy X Gz Lz Oz) vz) 0 0 (AS K ad X) := by
  refine s_met (by decide) (Nat.le_of_ble_eq_true rfl) ?_
  intro p e s m args below meth c ls H locs E hK hBs hnm hI hl
  have hl : lv_has ls 3 [(0, .ref (ad 100)), (1, .int x1), (2, .int x2)] := hl
  have E : Cx p s m args meth c RX11 cX11_sing 3 (some FieldType.int) := E
  obtain ⟨hx, hb, hr, hml, hown, hu, hlocks⟩ := id E
  rw [f_X11_sing] at hf
  refine lv_iload_n hx hb dX11_sing_0 rfl (lv_at hl 1 rfl) ?_
  refine lv_bipush (v := 7) hx hb dX11_sing_1 (by decide) ?_
  refine s_cSP (np := 2) (rest := []) E (c_X11_outside l x1 7 rfl) kyX11_outside u2_219 u2_220 (by decide) rfl hl.1 rfl (Nat.le_of_ble_eq_true rfl) ⟨Nat.zero_le _, Nat.zero_le _⟩ dX11_sing_3 ?_
  refine lv_if_ne (tgt := 23) hx hb dX11_sing_6 (by decide) (fun c1 => ?_) (fun c1 => ?_)
  · have hf := ite_f c1 hf
    refine lv_bipush (v := (-2)) hx hb dX11_sing_23 (by decide) ?_
    cases hf
    exact s_iret hx hb hr hI.2.2 hI.1 hlocks dX11_sing_25
  · have hf := ite_t c1 hf
    refine lv_iload_n hx hb dX11_sing_9 rfl (lv_at hl 2 rfl) ?_
    refine lv_aload_n hx hb dX11_sing_10 rfl (lv_at hl 0 rfl) ?_
    refine s_get (v := .ref (ad 101)) hx hb hu inU11 hown hK hI (mE hE.1 eC_100) rfl 0 (by decide) u2_175 (fun _ h => h) rfl rfl dX11_sing_11 ?_
    refine s_get (v := .int (G 101 5)) hx hb hu inU4 hown hK hI (mE hE.1 eC_101) rfl 5 (by decide) u1_56 (fun _ h => h) rfl rfl dX11_sing_14 ?_
    refine s_cSP (np := 2) (rest := []) E (c_X11_outside l x2 (G 101 5) rfl) kyX11_outside u2_219 u2_220 (by decide) rfl hl.1 rfl (Nat.le_of_ble_eq_true rfl) ⟨Nat.zero_le _, Nat.zero_le _⟩ dX11_sing_17 ?_
    refine lv_if_eq (tgt := 26) hx hb dX11_sing_20 (by decide) (fun c2 => ?_) (fun c2 => ?_)
    · have hf := ite_t c2 hf
      refine lv_aload_n hx hb dX11_sing_26 rfl (lv_at hl 0 rfl) ?_
      refine lv_iload_n hx hb dX11_sing_27 rfl (lv_at hl 1 rfl) ?_
      obtain ⟨v3, h4, hf⟩ := bndO_i hf
      refine s_afI hI (s_runV (rest := []) (As := [.int x1]) (np := 1) E hK hI (s_B hcl hBs hI) hcl.2 (mE hE.1 eC_100) rfl (c_X11_isMissing l D K sh ad cy X B hcl S hE G L O x1 h4) kyX11_isMissing u3_179 u3_181 up_15 (by decide) rfl hl.1 rfl (Nat.le_of_ble_eq_true rfl) ⟨Nat.zero_le _, Nat.zero_le _⟩ dX11_sing_28) (fun H locs hI => ?_)
      refine lv_if_eq (tgt := 37) hx hb dX11_sing_31 (by decide) (fun c5 => ?_) (fun c5 => ?_)
      · have hf := ite_t c5 hf
        refine lv_aload_n hx hb dX11_sing_37 rfl (lv_at hl 0 rfl) ?_
        refine lv_iload_n hx hb dX11_sing_38 rfl (lv_at hl 1 rfl) ?_
        refine lv_iload_n hx hb dX11_sing_39 rfl (lv_at hl 2 rfl) ?_
        obtain ⟨G6, L7, O8, h9, hf⟩ := bndP3_i hf
        refine s_afV hI (s_runV (rest := []) (As := [.int x1, .int x2]) (np := 2) E hK hI (s_B hcl hBs hI) hcl.2 (mE hE.1 eC_100) rfl (c_X11_perform l D K sh ad cy X B hcl S hE G L O x1 x2 h9) kyX11_perform u3_190 u3_192 up_16 (by decide) rfl hl.1 rfl (Nat.le_of_ble_eq_true rfl) ⟨Nat.zero_le _, Nat.zero_le _⟩ dX11_sing_40) (fun H locs hI => ?_)
        refine lv_aload_n hx hb dX11_sing_43 rfl (lv_at hl 0 rfl) ?_
        refine s_get (v := .ref (ad 128)) hx hb hu inU11 hown hK hI (mE hE.1 eC_100) rfl 9 (by decide) u2_184 (fun _ h => h) rfl rfl dX11_sing_44 ?_
        refine s_getN (host := RX11) (v := .int (G6 128 13)) hx hb hu inU1 hown hK hI (mE hE.1 eC_128) rfl 13 (by decide) (by decide) (fun _ h => h) rfl rfl dX11_sing_47 ?_
        cases hf
        exact s_iret hx hb hr hI.2.2 hI.1 hlocks dX11_sing_50
      · have hf := ite_f c5 hf
        refine lv_bipush (v := (-11)) hx hb dX11_sing_34 (by decide) ?_
        cases hf
        exact s_iret hx hb hr hI.2.2 hI.1 hlocks dX11_sing_36
    · have hf := ite_f c2 hf
      refine lv_bipush (v := (-2)) hx hb dX11_sing_23 (by decide) ?_
      cases hf
      exact s_iret hx hb hr hI.2.2 hI.1 hlocks dX11_sing_25
noncomputable def f_X11_of (G : Mem) (L : MemL) (O : MemO) (S : Nat → Nat) (x1 : Int32) (x2 : Int32) (x3 : Int32) : Option (Mem × MemL × MemO × Int32) := (if (f_X11_outside x1 7) = 0 then (if (f_X11_outside x2 (G 101 5)) = 0 then (if (f_X11_outside x3 4) = 0 then bndO (f_X11_isMissing G O S x1) (fun v4 => (if v4 = 0 then bndP3 (f_X11_perform G L O S x1 x2) (fun G7 L8 O9 => bndO (f_X1_howMany G7 x3) (fun v11 => some (G7, L8, O9, v11))) else some (G, L, O, (-11)))) else some (G, L, O, (-2))) else some (G, L, O, (-2))) else some (G, L, O, (-2)))
theorem kyX11_of : Ky yX11_of cX11_of 4 (some FieldType.int) 3 := ⟨u4_22, u1_1, by decide, by decide, by decide, by decide +kernel⟩
set_option maxHeartbeats 4000000 in
set_option maxRecDepth 100000 in
theorem c_X11_of (l : Launch) (D : va_G) (K : List Nat) (sh : Nat → Ent) (ad : Nat → Nat) (cy : Nat → ClassId) (X : va_W) (B : State → Prop) (hcl : Bcl (AS K ad X) B) (S : Nat → Nat) (hE : HC S K sh) (G : Mem) (L : MemL) (O : MemO) (x1 : Int32) (x2 : Int32) (x3 : Int32) {Gz : Mem} {Lz : MemL} {Oz : MemO} {vz : Int32} (hf : f_X11_of G L O S x1 x2 x3 = some (Gz, Lz, Oz, vz)) : Met l yX11_of (wsU yX11_of cX11_of 4 (some FieldType.int)) (rmX 8 0 0) (va_Pc [.ref (ad 100), .int x1, .int x2, .int x3] (PS D K sh ad cy X B G L O)) (QI (AS K ad X) (PH D K sh ad cy X Gz Lz Oz) vz) 0 0 (AS K ad X) := by
  refine s_met (by decide) (Nat.le_of_ble_eq_true rfl) ?_
  intro p e s m args below meth c ls H locs E hK hBs hnm hI hl
  have hl : lv_has ls 4 [(0, .ref (ad 100)), (1, .int x1), (2, .int x2), (3, .int x3)] := hl
  have E : Cx p s m args meth c RX11 cX11_of 4 (some FieldType.int) := E
  obtain ⟨hx, hb, hr, hml, hown, hu, hlocks⟩ := id E
  rw [f_X11_of] at hf
  refine lv_iload_n hx hb dX11_of_0 rfl (lv_at hl 1 rfl) ?_
  refine lv_bipush (v := 7) hx hb dX11_of_1 (by decide) ?_
  refine s_cSP (np := 2) (rest := []) E (c_X11_outside l x1 7 rfl) kyX11_outside u2_219 u2_220 (by decide) rfl hl.1 rfl (Nat.le_of_ble_eq_true rfl) ⟨Nat.zero_le _, Nat.zero_le _⟩ dX11_of_3 ?_
  refine lv_if_ne (tgt := 31) hx hb dX11_of_6 (by decide) (fun c1 => ?_) (fun c1 => ?_)
  · have hf := ite_f c1 hf
    refine lv_bipush (v := (-2)) hx hb dX11_of_31 (by decide) ?_
    cases hf
    exact s_iret hx hb hr hI.2.2 hI.1 hlocks dX11_of_33
  · have hf := ite_t c1 hf
    refine lv_iload_n hx hb dX11_of_9 rfl (lv_at hl 2 rfl) ?_
    refine lv_aload_n hx hb dX11_of_10 rfl (lv_at hl 0 rfl) ?_
    refine s_get (v := .ref (ad 101)) hx hb hu inU11 hown hK hI (mE hE.1 eC_100) rfl 0 (by decide) u2_175 (fun _ h => h) rfl rfl dX11_of_11 ?_
    refine s_get (v := .int (G 101 5)) hx hb hu inU4 hown hK hI (mE hE.1 eC_101) rfl 5 (by decide) u1_56 (fun _ h => h) rfl rfl dX11_of_14 ?_
    refine s_cSP (np := 2) (rest := []) E (c_X11_outside l x2 (G 101 5) rfl) kyX11_outside u2_219 u2_220 (by decide) rfl hl.1 rfl (Nat.le_of_ble_eq_true rfl) ⟨Nat.zero_le _, Nat.zero_le _⟩ dX11_of_17 ?_
    refine lv_if_ne (tgt := 31) hx hb dX11_of_20 (by decide) (fun c2 => ?_) (fun c2 => ?_)
    · have hf := ite_f c2 hf
      refine lv_bipush (v := (-2)) hx hb dX11_of_31 (by decide) ?_
      cases hf
      exact s_iret hx hb hr hI.2.2 hI.1 hlocks dX11_of_33
    · have hf := ite_t c2 hf
      refine lv_iload_n hx hb dX11_of_23 rfl (lv_at hl 3 rfl) ?_
      refine lv_iconst (v := 4) hx hb dX11_of_24 (by decide) ?_
      refine s_cSP (np := 2) (rest := []) E (c_X11_outside l x3 4 rfl) kyX11_outside u2_219 u2_220 (by decide) rfl hl.1 rfl (Nat.le_of_ble_eq_true rfl) ⟨Nat.zero_le _, Nat.zero_le _⟩ dX11_of_25 ?_
      refine lv_if_eq (tgt := 34) hx hb dX11_of_28 (by decide) (fun c3 => ?_) (fun c3 => ?_)
      · have hf := ite_t c3 hf
        refine lv_aload_n hx hb dX11_of_34 rfl (lv_at hl 0 rfl) ?_
        refine lv_iload_n hx hb dX11_of_35 rfl (lv_at hl 1 rfl) ?_
        obtain ⟨v4, h5, hf⟩ := bndO_i hf
        refine s_afI hI (s_runV (rest := []) (As := [.int x1]) (np := 1) E hK hI (s_B hcl hBs hI) hcl.2 (mE hE.1 eC_100) rfl (c_X11_isMissing l D K sh ad cy X B hcl S hE G L O x1 h5) kyX11_isMissing u3_179 u3_181 up_15 (by decide) rfl hl.1 rfl (Nat.le_of_ble_eq_true rfl) ⟨Nat.zero_le _, Nat.zero_le _⟩ dX11_of_36) (fun H locs hI => ?_)
        refine lv_if_eq (tgt := 45) hx hb dX11_of_39 (by decide) (fun c6 => ?_) (fun c6 => ?_)
        · have hf := ite_t c6 hf
          refine lv_aload_n hx hb dX11_of_45 rfl (lv_at hl 0 rfl) ?_
          refine lv_iload_n hx hb dX11_of_46 rfl (lv_at hl 1 rfl) ?_
          refine lv_iload_n hx hb dX11_of_47 rfl (lv_at hl 2 rfl) ?_
          obtain ⟨G7, L8, O9, h10, hf⟩ := bndP3_i hf
          refine s_afV hI (s_runV (rest := []) (As := [.int x1, .int x2]) (np := 2) E hK hI (s_B hcl hBs hI) hcl.2 (mE hE.1 eC_100) rfl (c_X11_perform l D K sh ad cy X B hcl S hE G L O x1 x2 h10) kyX11_perform u3_190 u3_192 up_16 (by decide) rfl hl.1 rfl (Nat.le_of_ble_eq_true rfl) ⟨Nat.zero_le _, Nat.zero_le _⟩ dX11_of_48) (fun H locs hI => ?_)
          refine lv_aload_n hx hb dX11_of_51 rfl (lv_at hl 0 rfl) ?_
          refine s_get (v := .ref (ad 128)) hx hb hu inU11 hown hK hI (mE hE.1 eC_100) rfl 9 (by decide) u2_184 (fun _ h => h) rfl rfl dX11_of_52 ?_
          refine lv_iload_n hx hb dX11_of_55 rfl (lv_at hl 3 rfl) ?_
          obtain ⟨v11, h12, hf⟩ := bndO_i hf
          refine s_afI hI (s_runV (rest := []) (As := [.int x3]) (np := 1) E hK hI (s_B hcl hBs hI) hcl.2 (mE hE.1 eC_128) rfl (c_X1_howMany l D K sh ad cy X B hcl S hE G7 L8 O9 x3 h12) kyX1_howMany u4_23 u4_16 u4_17 (by decide) rfl hl.1 rfl (Nat.le_of_ble_eq_true rfl) ⟨Nat.zero_le _, Nat.zero_le _⟩ dX11_of_56) (fun H locs hI => ?_)
          cases hf
          exact s_iret hx hb hr hI.2.2 hI.1 hlocks dX11_of_59
        · have hf := ite_f c6 hf
          refine lv_bipush (v := (-11)) hx hb dX11_of_42 (by decide) ?_
          cases hf
          exact s_iret hx hb hr hI.2.2 hI.1 hlocks dX11_of_44
      · have hf := ite_f c3 hf
        refine lv_bipush (v := (-2)) hx hb dX11_of_31 (by decide) ?_
        cases hf
        exact s_iret hx hb hr hI.2.2 hI.1 hlocks dX11_of_33
noncomputable def q_X11_wrong_30 (S : Nat → Nat) (x1 : Int32)  (rec : (Mem × MemL × MemO × Int32) → Option (Mem × MemL × MemO × Int32)) : (Mem × MemL × MemO × Int32) → Option (Mem × MemL × MemO × Int32) := fun (G, L, O, x2) => (if (G 101 5) ≤ x2 then some (G, L, O, (-1)) else chk (inB x2 48) (bndO (f_X1_advance G L O S x2 (G 102 x2.toNatClampNeg)) (fun G11 => bndO (f_X1_wrongHere G11 O S x2) (fun v13 => (if v13 = (-1) then bnd (x2 + 1) (fun x2_16 => rec (G11, L, O, x2_16)) else some (G11, L, O, ((1000 * x2) + v13)))))))
noncomputable def f_X11_wrong (G : Mem) (L : MemL) (O : MemO) (S : Nat → Nat) (x1 : Int32) : Option (Mem × MemL × MemO × Int32) := (if (f_X11_outside x1 7) = 0 then bndO (f_X11_isMissing G O S x1) (fun v2 => (if v2 = 0 then bndP3 (f_X11_prepare G L O S x1) (fun G5 L6 O7 => iter (q_X11_wrong_30 S x1) fuel (G5, L6, O7, 0)) else some (G, L, O, (-11)))) else some (G, L, O, (-2)))
theorem kyX11_wrong : Ky yX11_wrong cX11_wrong 4 (some FieldType.int) 1 := ⟨u4_27, u1_1, by decide, by decide, by decide, by decide +kernel⟩
set_option maxHeartbeats 4000000 in
set_option maxRecDepth 100000 in
theorem c_X11_wrong (l : Launch) (D : va_G) (K : List Nat) (sh : Nat → Ent) (ad : Nat → Nat) (cy : Nat → ClassId) (X : va_W) (B : State → Prop) (hcl : Bcl (AS K ad X) B) (S : Nat → Nat) (hE : HC S K sh) (G : Mem) (L : MemL) (O : MemO) (x1 : Int32) {Gz : Mem} {Lz : MemL} {Oz : MemO} {vz : Int32} (hf : f_X11_wrong G L O S x1 = some (Gz, Lz, Oz, vz)) : Met l yX11_wrong (wsU yX11_wrong cX11_wrong 4 (some FieldType.int)) (rmX 7 0 0) (va_Pc [.ref (ad 100), .int x1] (PS D K sh ad cy X B G L O)) (QI (AS K ad X) (PH D K sh ad cy X Gz Lz Oz) vz) 0 0 (AS K ad X) := by
  refine s_met (by decide) (Nat.le_of_ble_eq_true rfl) ?_
  intro p e s m args below meth c ls H locs E hK hBs hnm hI hl
  have hl : lv_has ls 4 [(0, .ref (ad 100)), (1, .int x1)] := hl
  have E : Cx p s m args meth c RX11 cX11_wrong 4 (some FieldType.int) := E
  obtain ⟨hx, hb, hr, hml, hown, hu, hlocks⟩ := id E
  have B30 : ∀   (n : Nat) (G : Mem) (L : MemL) (O : MemO) (x2 : Int32) (H : Heap) (locs : List Loc) (ls : Array Slot), lv_has ls 4 [(0, .ref (ad 100)), (2, .int x2)] → IS D K sh ad cy X (AS K ad X) s.heap H locs G L O → iter (q_X11_wrong_30 S x1) n (G, L, O, x2) = some (Gz, Lz, Oz, vz) → W p l e (rmX 7 0 0) s m args below meth c H locs 0 0 (MQ below (QI (AS K ad X) (PH D K sh ad cy X Gz Lz Oz) vz) args s 0 0 (AS K ad X)) (F0 m 30 ls []) := by
    intro n
    induction n with
    | zero => intro G L O x2 H locs ls hl hI hf; exact iter_0 hf
    | succ n ih =>
      intro G L O x2 H locs ls hl hI hf
      have hf : q_X11_wrong_30 S x1 (iter (q_X11_wrong_30 S x1) n) (G, L, O, x2) = some (Gz, Lz, Oz, vz) := hf
      rw [q_X11_wrong_30] at hf
      refine lv_iload_n hx hb dX11_wrong_30 rfl (lv_at hl 1 rfl) ?_
      refine lv_aload_n hx hb dX11_wrong_31 rfl (lv_at hl 0 rfl) ?_
      refine s_get (v := .ref (ad 101)) hx hb hu inU11 hown hK hI (mE hE.1 eC_100) rfl 0 (by decide) u2_175 (fun _ h => h) rfl rfl dX11_wrong_32 ?_
      refine s_get (v := .int (G 101 5)) hx hb hu inU4 hown hK hI (mE hE.1 eC_101) rfl 5 (by decide) u1_56 (fun _ h => h) rfl rfl dX11_wrong_35 ?_
      refine lv_icmp_ge (tgt := 86) hx hb dX11_wrong_38 (by decide) (fun c9 => ?_) (fun c9 => ?_)
      · have hf := ite_t c9 hf
        refine lv_iconst (v := (-1)) hx hb dX11_wrong_86 (by decide) ?_
        cases hf
        exact s_iret hx hb hr hI.2.2 hI.1 hlocks dX11_wrong_87
      · have hf := ite_f c9 hf
        refine lv_aload_n hx hb dX11_wrong_41 rfl (lv_at hl 0 rfl) ?_
        refine s_get (v := .ref (ad 128)) hx hb hu inU11 hown hK hI (mE hE.1 eC_100) rfl 9 (by decide) u2_184 (fun _ h => h) rfl rfl dX11_wrong_42 ?_
        refine lv_iload_n hx hb dX11_wrong_45 rfl (lv_at hl 1 rfl) ?_
        refine lv_aload_n hx hb dX11_wrong_46 rfl (lv_at hl 0 rfl) ?_
        refine s_get (v := .ref (ad 101)) hx hb hu inU11 hown hK hI (mE hE.1 eC_100) rfl 0 (by decide) u2_175 (fun _ h => h) rfl rfl dX11_wrong_47 ?_
        refine s_get (v := .ref (ad 102)) hx hb hu inU4 hown hK hI (mE hE.1 eC_101) rfl 0 (by decide) u1_41 (fun _ h => h) rfl rfl dX11_wrong_50 ?_
        refine lv_iload_n hx hb dX11_wrong_53 rfl (lv_at hl 1 rfl) ?_
        obtain ⟨h10, hf⟩ := chk_i hf
        refine s_ild hx hb hK hI (mE hE.1 eC_102) (inB_i h10) dX11_wrong_54 ?_
        obtain ⟨G11, h12, hf⟩ := bndO_i hf
        refine s_afV hI (s_runV (rest := []) (As := [.int x2, .int (G 102 x2.toNatClampNeg)]) (np := 2) E hK hI (s_B hcl hBs hI) hcl.2 (mE hE.1 eC_128) rfl (c_X1_advance l D K sh ad cy X B hcl S hE G L O x2 (G 102 x2.toNatClampNeg) h12) kyX1_advance u3_215 u3_216 u3_217 (by decide) rfl hl.1 rfl (Nat.le_of_ble_eq_true rfl) ⟨Nat.zero_le _, Nat.zero_le _⟩ dX11_wrong_55) (fun H locs hI => ?_)
        refine lv_aload_n hx hb dX11_wrong_58 rfl (lv_at hl 0 rfl) ?_
        refine s_get (v := .ref (ad 128)) hx hb hu inU11 hown hK hI (mE hE.1 eC_100) rfl 9 (by decide) u2_184 (fun _ h => h) rfl rfl dX11_wrong_59 ?_
        refine lv_iload_n hx hb dX11_wrong_62 rfl (lv_at hl 1 rfl) ?_
        obtain ⟨v13, h14, hf⟩ := bndO_i hf
        refine s_afI hI (s_runV (rest := []) (As := [.int x2]) (np := 1) E hK hI (s_B hcl hBs hI) hcl.2 (mE hE.1 eC_128) rfl (c_X1_wrongHere l D K sh ad cy X B hcl S hE G11 L O x2 h14) kyX1_wrongHere u4_28 u4_29 u4_30 (by decide) rfl hl.1 rfl (Nat.le_of_ble_eq_true rfl) ⟨Nat.zero_le _, Nat.zero_le _⟩ dX11_wrong_63) (fun H locs hI => ?_)
        refine lv_istore_n (lv' := [(3, .int v13), (0, .ref (ad 100)), (2, .int x2)]) hx hb dX11_wrong_66 rfl hl (by decide) rfl (fun ls hl => ?_)
        refine lv_iload_n hx hb dX11_wrong_67 rfl (lv_at hl 0 rfl) ?_
        refine lv_iconst (v := (-1)) hx hb dX11_wrong_68 (by decide) ?_
        refine lv_icmp_eq (tgt := 80) hx hb dX11_wrong_69 (by decide) (fun c15 => ?_) (fun c15 => ?_)
        · have hf := ite_t c15 hf
          obtain ⟨x2_16, ex2_16, hf⟩ := bnd_i hf
          refine lv_iinc (v := x2_16) (lv' := [(2, .int x2_16), (3, .int v13), (0, .ref (ad 100))]) hx hb dX11_wrong_80 hl (k := 2) rfl (by rw [ex2_16]; rfl) (by decide) rfl (fun ls hl => ?_)
          refine lv_goto (tgt := 30) hx hb dX11_wrong_83 (by decide) ?_
          exact ih G11 L O x2_16 H locs ls (lv_sub hl [2, 0] rfl) hI hf
        · have hf := ite_f c15 hf
          refine lv_sipush (v := 1000) hx hb dX11_wrong_72 (by decide) ?_
          refine lv_iload_n hx hb dX11_wrong_75 rfl (lv_at hl 2 rfl) ?_
          refine lv_imul hx hb dX11_wrong_76 ?_
          refine lv_iload_n hx hb dX11_wrong_77 rfl (lv_at hl 0 rfl) ?_
          refine lv_iadd hx hb dX11_wrong_78 ?_
          cases hf
          exact s_iret hx hb hr hI.2.2 hI.1 hlocks dX11_wrong_79
  rw [f_X11_wrong] at hf
  refine lv_iload_n hx hb dX11_wrong_0 rfl (lv_at hl 1 rfl) ?_
  refine lv_bipush (v := 7) hx hb dX11_wrong_1 (by decide) ?_
  refine s_cSP (np := 2) (rest := []) E (c_X11_outside l x1 7 rfl) kyX11_outside u2_219 u2_220 (by decide) rfl hl.1 rfl (Nat.le_of_ble_eq_true rfl) ⟨Nat.zero_le _, Nat.zero_le _⟩ dX11_wrong_3 ?_
  refine lv_if_eq (tgt := 12) hx hb dX11_wrong_6 (by decide) (fun c1 => ?_) (fun c1 => ?_)
  · have hf := ite_t c1 hf
    refine lv_aload_n hx hb dX11_wrong_12 rfl (lv_at hl 0 rfl) ?_
    refine lv_iload_n hx hb dX11_wrong_13 rfl (lv_at hl 1 rfl) ?_
    obtain ⟨v2, h3, hf⟩ := bndO_i hf
    refine s_afI hI (s_runV (rest := []) (As := [.int x1]) (np := 1) E hK hI (s_B hcl hBs hI) hcl.2 (mE hE.1 eC_100) rfl (c_X11_isMissing l D K sh ad cy X B hcl S hE G L O x1 h3) kyX11_isMissing u3_179 u3_181 up_15 (by decide) rfl hl.1 rfl (Nat.le_of_ble_eq_true rfl) ⟨Nat.zero_le _, Nat.zero_le _⟩ dX11_wrong_14) (fun H locs hI => ?_)
    refine lv_if_eq (tgt := 23) hx hb dX11_wrong_17 (by decide) (fun c4 => ?_) (fun c4 => ?_)
    · have hf := ite_t c4 hf
      refine lv_aload_n hx hb dX11_wrong_23 rfl (lv_at hl 0 rfl) ?_
      refine lv_iload_n hx hb dX11_wrong_24 rfl (lv_at hl 1 rfl) ?_
      obtain ⟨G5, L6, O7, h8, hf⟩ := bndP3_i hf
      refine s_afV hI (s_runV (rest := []) (As := [.int x1]) (np := 1) E hK hI (s_B hcl hBs hI) hcl.2 (mE hE.1 eC_100) rfl (c_X11_prepare l D K sh ad cy X B hcl S hE G L O x1 h8) kyX11_prepare u3_194 u3_196 up_17 (by decide) rfl hl.1 rfl (Nat.le_of_ble_eq_true rfl) ⟨Nat.zero_le _, Nat.zero_le _⟩ dX11_wrong_25) (fun H locs hI => ?_)
      refine lv_iconst (v := 0) hx hb dX11_wrong_28 (by decide) ?_
      refine lv_istore_n (lv' := [(2, .int 0), (0, .ref (ad 100)), (1, .int x1)]) hx hb dX11_wrong_29 rfl hl (by decide) rfl (fun ls hl => ?_)
      exact B30   fuel G5 L6 O7 0 H locs ls (lv_sub hl [1, 0] rfl) hI hf
    · have hf := ite_f c4 hf
      refine lv_bipush (v := (-11)) hx hb dX11_wrong_20 (by decide) ?_
      cases hf
      exact s_iret hx hb hr hI.2.2 hI.1 hlocks dX11_wrong_22
  · have hf := ite_f c1 hf
    refine lv_bipush (v := (-2)) hx hb dX11_wrong_9 (by decide) ?_
    cases hf
    exact s_iret hx hb hr hI.2.2 hI.1 hlocks dX11_wrong_11
noncomputable def f_X11_bad (G : Mem) (L : MemL) (O : MemO) (S : Nat → Nat) (x1 : Int32) : Option (Mem × MemL × MemO × Int64) := (if (f_X11_outside x1 7) = 0 then bndO (f_X11_isMissing G O S x1) (fun v2 => (if v2 = 0 then bndP3 (f_X11_prepare G L O S x1) (fun G5 L6 O7 => bndO (f_X1_weigh G5 O7 S) (fun G9 => bndP (f_X1_badOfAll G9 L6 O7 S) (fun G11 v12 => some (G11, L6, O7, v12)))) else some (G, L, O, (-4611686018427387904)))) else some (G, L, O, (-4611686018427387904)))
theorem kyX11_bad : Ky yX11_bad cX11_bad 2 (some FieldType.long) 1 := ⟨u4_44, u1_1, by decide, by decide, by decide, by decide +kernel⟩
set_option maxHeartbeats 4000000 in
set_option maxRecDepth 100000 in
theorem c_X11_bad (l : Launch) (D : va_G) (K : List Nat) (sh : Nat → Ent) (ad : Nat → Nat) (cy : Nat → ClassId) (X : va_W) (B : State → Prop) (hcl : Bcl (AS K ad X) B) (S : Nat → Nat) (hE : HC S K sh) (G : Mem) (L : MemL) (O : MemO) (x1 : Int32) {Gz : Mem} {Lz : MemL} {Oz : MemO} {vz : Int64} (hf : f_X11_bad G L O S x1 = some (Gz, Lz, Oz, vz)) : Met l yX11_bad (wsU yX11_bad cX11_bad 2 (some FieldType.long)) (rmX 8 0 0) (va_Pc [.ref (ad 100), .int x1] (PS D K sh ad cy X B G L O)) (QL (AS K ad X) (PH D K sh ad cy X Gz Lz Oz) vz) 0 0 (AS K ad X) := by
  refine s_met (by decide) (Nat.le_of_ble_eq_true rfl) ?_
  intro p e s m args below meth c ls H locs E hK hBs hnm hI hl
  have hl : lv_has ls 2 [(0, .ref (ad 100)), (1, .int x1)] := hl
  have E : Cx p s m args meth c RX11 cX11_bad 2 (some FieldType.long) := E
  obtain ⟨hx, hb, hr, hml, hown, hu, hlocks⟩ := id E
  rw [f_X11_bad] at hf
  refine lv_iload_n hx hb dX11_bad_0 rfl (lv_at hl 1 rfl) ?_
  refine lv_bipush (v := 7) hx hb dX11_bad_1 (by decide) ?_
  refine s_cSP (np := 2) (rest := []) E (c_X11_outside l x1 7 rfl) kyX11_outside u2_219 u2_220 (by decide) rfl hl.1 rfl (Nat.le_of_ble_eq_true rfl) ⟨Nat.zero_le _, Nat.zero_le _⟩ dX11_bad_3 ?_
  refine lv_if_ne (tgt := 17) hx hb dX11_bad_6 (by decide) (fun c1 => ?_) (fun c1 => ?_)
  · have hf := ite_f c1 hf
    refine lv_ldc2 (v := (-4611686018427387904)) hx hb hown (hu _ u4_45) dX11_bad_17 ?_
    cases hf
    exact s_lret hx hb hr hI.2.2 hI.1 hlocks dX11_bad_20
  · have hf := ite_t c1 hf
    refine lv_aload_n hx hb dX11_bad_9 rfl (lv_at hl 0 rfl) ?_
    refine lv_iload_n hx hb dX11_bad_10 rfl (lv_at hl 1 rfl) ?_
    obtain ⟨v2, h3, hf⟩ := bndO_i hf
    refine s_afI hI (s_runV (rest := []) (As := [.int x1]) (np := 1) E hK hI (s_B hcl hBs hI) hcl.2 (mE hE.1 eC_100) rfl (c_X11_isMissing l D K sh ad cy X B hcl S hE G L O x1 h3) kyX11_isMissing u3_179 u3_181 up_15 (by decide) rfl hl.1 rfl (Nat.le_of_ble_eq_true rfl) ⟨Nat.zero_le _, Nat.zero_le _⟩ dX11_bad_11) (fun H locs hI => ?_)
    refine lv_if_eq (tgt := 21) hx hb dX11_bad_14 (by decide) (fun c4 => ?_) (fun c4 => ?_)
    · have hf := ite_t c4 hf
      refine lv_aload_n hx hb dX11_bad_21 rfl (lv_at hl 0 rfl) ?_
      refine lv_iload_n hx hb dX11_bad_22 rfl (lv_at hl 1 rfl) ?_
      obtain ⟨G5, L6, O7, h8, hf⟩ := bndP3_i hf
      refine s_afV hI (s_runV (rest := []) (As := [.int x1]) (np := 1) E hK hI (s_B hcl hBs hI) hcl.2 (mE hE.1 eC_100) rfl (c_X11_prepare l D K sh ad cy X B hcl S hE G L O x1 h8) kyX11_prepare u3_194 u3_196 up_17 (by decide) rfl hl.1 rfl (Nat.le_of_ble_eq_true rfl) ⟨Nat.zero_le _, Nat.zero_le _⟩ dX11_bad_23) (fun H locs hI => ?_)
      refine lv_aload_n hx hb dX11_bad_26 rfl (lv_at hl 0 rfl) ?_
      refine s_get (v := .ref (ad 128)) hx hb hu inU11 hown hK hI (mE hE.1 eC_100) rfl 9 (by decide) u2_184 (fun _ h => h) rfl rfl dX11_bad_27 ?_
      obtain ⟨G9, h10, hf⟩ := bndO_i hf
      refine s_afV hI (s_runV (rest := []) (As := []) (np := 0) E hK hI (s_B hcl hBs hI) hcl.2 (mE hE.1 eC_128) rfl (c_X1_weigh l D K sh ad cy X B hcl S hE G5 L6 O7  h10) kyX1_weigh u4_46 u4_47 u4_48 (by decide) rfl hl.1 rfl (Nat.le_of_ble_eq_true rfl) ⟨Nat.zero_le _, Nat.zero_le _⟩ dX11_bad_30) (fun H locs hI => ?_)
      refine lv_aload_n hx hb dX11_bad_33 rfl (lv_at hl 0 rfl) ?_
      refine s_get (v := .ref (ad 128)) hx hb hu inU11 hown hK hI (mE hE.1 eC_100) rfl 9 (by decide) u2_184 (fun _ h => h) rfl rfl dX11_bad_34 ?_
      obtain ⟨G11, v12, h13, hf⟩ := bndP_i hf
      refine s_afL hI (s_runV (rest := []) (As := []) (np := 0) E hK hI (s_B hcl hBs hI) hcl.2 (mE hE.1 eC_128) rfl (c_X1_badOfAll l D K sh ad cy X B hcl S hE G9 L6 O7  h13) kyX1_badOfAll u4_52 u4_53 u4_54 (by decide) rfl hl.1 rfl (Nat.le_of_ble_eq_true rfl) ⟨Nat.zero_le _, Nat.zero_le _⟩ dX11_bad_37) (fun H locs hI => ?_)
      cases hf
      exact s_lret hx hb hr hI.2.2 hI.1 hlocks dX11_bad_40
    · have hf := ite_f c4 hf
      refine lv_ldc2 (v := (-4611686018427387904)) hx hb hown (hu _ u4_45) dX11_bad_17 ?_
      cases hf
      exact s_lret hx hb hr hI.2.2 hI.1 hlocks dX11_bad_20
noncomputable def j_X11_breaths_28 (S : Nat → Nat) (x1 : Int32) (x2 : Int32)  (G : Mem) (L : MemL) (O : MemO) : Option (Mem × MemL × MemO × Int32) := bndO (f_X11_isMissing G O S x1) (fun v3 => (if v3 = 0 then bndP3 (f_X11_perform G L O S x1 ((G 101 5) - 1)) (fun G6 L7 O8 => (if x2 = (-1) then bndO (f_X1_allBreaths G6) (fun v12 => some (G6, L7, O8, v12)) else chk (inB x2 10) (some (G6, L7, O8, (G6 132 x2.toNatClampNeg))))) else some (G, L, O, (-11))))
noncomputable def f_X11_breaths (G : Mem) (L : MemL) (O : MemO) (S : Nat → Nat) (x1 : Int32) (x2 : Int32) : Option (Mem × MemL × MemO × Int32) := (if (f_X11_outside x1 7) = 0 then (if x2 = (-1) then j_X11_breaths_28 S x1 x2 G L O else (if (f_X11_outside x2 (G 100 4)) = 0 then j_X11_breaths_28 S x1 x2 G L O else some (G, L, O, (-2)))) else some (G, L, O, (-2)))
theorem kyX11_breaths : Ky yX11_breaths cX11_breaths 3 (some FieldType.int) 2 := ⟨u4_61, u1_1, by decide, by decide, by decide, by decide +kernel⟩
set_option maxHeartbeats 4000000 in
set_option maxRecDepth 100000 in
theorem c_X11_breaths (l : Launch) (D : va_G) (K : List Nat) (sh : Nat → Ent) (ad : Nat → Nat) (cy : Nat → ClassId) (X : va_W) (B : State → Prop) (hcl : Bcl (AS K ad X) B) (S : Nat → Nat) (hE : HC S K sh) (G : Mem) (L : MemL) (O : MemO) (x1 : Int32) (x2 : Int32) {Gz : Mem} {Lz : MemL} {Oz : MemO} {vz : Int32} (hf : f_X11_breaths G L O S x1 x2 = some (Gz, Lz, Oz, vz)) : Met l yX11_breaths (wsU yX11_breaths cX11_breaths 3 (some FieldType.int)) (rmX 8 0 0) (va_Pc [.ref (ad 100), .int x1, .int x2] (PS D K sh ad cy X B G L O)) (QI (AS K ad X) (PH D K sh ad cy X Gz Lz Oz) vz) 0 0 (AS K ad X) := by
  refine s_met (by decide) (Nat.le_of_ble_eq_true rfl) ?_
  intro p e s m args below meth c ls H locs E hK hBs hnm hI hl
  have hl : lv_has ls 3 [(0, .ref (ad 100)), (1, .int x1), (2, .int x2)] := hl
  have E : Cx p s m args meth c RX11 cX11_breaths 3 (some FieldType.int) := E
  obtain ⟨hx, hb, hr, hml, hown, hu, hlocks⟩ := id E
  have B28 : ∀    (G : Mem) (L : MemL) (O : MemO) (H : Heap) (locs : List Loc) (ls : Array Slot), lv_has ls 3 [(0, .ref (ad 100)), (1, .int x1), (2, .int x2)] → IS D K sh ad cy X (AS K ad X) s.heap H locs G L O → j_X11_breaths_28 S x1 x2 G L O = some (Gz, Lz, Oz, vz) → W p l e (rmX 8 0 0) s m args below meth c H locs 0 0 (MQ below (QI (AS K ad X) (PH D K sh ad cy X Gz Lz Oz) vz) args s 0 0 (AS K ad X)) (F0 m 28 ls []) := by
    intro  G L O H locs ls hl hI hf
    rw [j_X11_breaths_28] at hf
    refine lv_aload_n hx hb dX11_breaths_28 rfl (lv_at hl 0 rfl) ?_
    refine lv_iload_n hx hb dX11_breaths_29 rfl (lv_at hl 1 rfl) ?_
    obtain ⟨v3, h4, hf⟩ := bndO_i hf
    refine s_afI hI (s_runV (rest := []) (As := [.int x1]) (np := 1) E hK hI (s_B hcl hBs hI) hcl.2 (mE hE.1 eC_100) rfl (c_X11_isMissing l D K sh ad cy X B hcl S hE G L O x1 h4) kyX11_isMissing u3_179 u3_181 up_15 (by decide) rfl hl.1 rfl (Nat.le_of_ble_eq_true rfl) ⟨Nat.zero_le _, Nat.zero_le _⟩ dX11_breaths_30) (fun H locs hI => ?_)
    refine lv_if_eq (tgt := 39) hx hb dX11_breaths_33 (by decide) (fun c5 => ?_) (fun c5 => ?_)
    · have hf := ite_t c5 hf
      refine lv_aload_n hx hb dX11_breaths_39 rfl (lv_at hl 0 rfl) ?_
      refine lv_iload_n hx hb dX11_breaths_40 rfl (lv_at hl 1 rfl) ?_
      refine lv_aload_n hx hb dX11_breaths_41 rfl (lv_at hl 0 rfl) ?_
      refine s_get (v := .ref (ad 101)) hx hb hu inU11 hown hK hI (mE hE.1 eC_100) rfl 0 (by decide) u2_175 (fun _ h => h) rfl rfl dX11_breaths_42 ?_
      refine s_get (v := .int (G 101 5)) hx hb hu inU4 hown hK hI (mE hE.1 eC_101) rfl 5 (by decide) u1_56 (fun _ h => h) rfl rfl dX11_breaths_45 ?_
      refine lv_iconst (v := 1) hx hb dX11_breaths_48 (by decide) ?_
      refine lv_isub hx hb dX11_breaths_49 ?_
      obtain ⟨G6, L7, O8, h9, hf⟩ := bndP3_i hf
      refine s_afV hI (s_runV (rest := []) (As := [.int x1, .int ((G 101 5) - 1)]) (np := 2) E hK hI (s_B hcl hBs hI) hcl.2 (mE hE.1 eC_100) rfl (c_X11_perform l D K sh ad cy X B hcl S hE G L O x1 ((G 101 5) - 1) h9) kyX11_perform u3_190 u3_192 up_16 (by decide) rfl hl.1 rfl (Nat.le_of_ble_eq_true rfl) ⟨Nat.zero_le _, Nat.zero_le _⟩ dX11_breaths_50) (fun H locs hI => ?_)
      refine lv_iload_n hx hb dX11_breaths_53 rfl (lv_at hl 2 rfl) ?_
      refine lv_iconst (v := (-1)) hx hb dX11_breaths_54 (by decide) ?_
      refine lv_icmp_ne (tgt := 68) hx hb dX11_breaths_55 (by decide) (fun c10 => ?_) (fun c10 => ?_)
      · have hf := ite_f c10 hf
        refine lv_aload_n hx hb dX11_breaths_68 rfl (lv_at hl 0 rfl) ?_
        refine s_get (v := .ref (ad 128)) hx hb hu inU11 hown hK hI (mE hE.1 eC_100) rfl 9 (by decide) u2_184 (fun _ h => h) rfl rfl dX11_breaths_69 ?_
        refine s_getN (host := RX11) (v := .ref (ad 132)) hx hb hu inU1 hown hK hI (mE hE.1 eC_128) rfl 5 (by decide) (by decide) (fun _ h => h) rfl rfl dX11_breaths_72 ?_
        refine lv_iload_n hx hb dX11_breaths_75 rfl (lv_at hl 2 rfl) ?_
        obtain ⟨h11, hf⟩ := chk_i hf
        refine s_ild hx hb hK hI (mE hE.1 eC_132) (inB_i h11) dX11_breaths_76 ?_
        cases hf
        exact s_iret hx hb hr hI.2.2 hI.1 hlocks dX11_breaths_77
      · have hf := ite_t c10 hf
        refine lv_aload_n hx hb dX11_breaths_58 rfl (lv_at hl 0 rfl) ?_
        refine s_get (v := .ref (ad 128)) hx hb hu inU11 hown hK hI (mE hE.1 eC_100) rfl 9 (by decide) u2_184 (fun _ h => h) rfl rfl dX11_breaths_59 ?_
        obtain ⟨v12, h13, hf⟩ := bndO_i hf
        refine s_afI hI (s_runV (rest := []) (As := []) (np := 0) E hK hI (s_B hcl hBs hI) hcl.2 (mE hE.1 eC_128) rfl (c_X1_allBreaths l D K sh ad cy X B hcl S hE G6 L7 O8  h13) kyX1_allBreaths u4_62 u4_63 u4_64 (by decide) rfl hl.1 rfl (Nat.le_of_ble_eq_true rfl) ⟨Nat.zero_le _, Nat.zero_le _⟩ dX11_breaths_62) (fun H locs hI => ?_)
        refine lv_goto (tgt := 77) hx hb dX11_breaths_65 (by decide) ?_
        cases hf
        exact s_iret hx hb hr hI.2.2 hI.1 hlocks dX11_breaths_77
    · have hf := ite_f c5 hf
      refine lv_bipush (v := (-11)) hx hb dX11_breaths_36 (by decide) ?_
      cases hf
      exact s_iret hx hb hr hI.2.2 hI.1 hlocks dX11_breaths_38
  rw [f_X11_breaths] at hf
  refine lv_iload_n hx hb dX11_breaths_0 rfl (lv_at hl 1 rfl) ?_
  refine lv_bipush (v := 7) hx hb dX11_breaths_1 (by decide) ?_
  refine s_cSP (np := 2) (rest := []) E (c_X11_outside l x1 7 rfl) kyX11_outside u2_219 u2_220 (by decide) rfl hl.1 rfl (Nat.le_of_ble_eq_true rfl) ⟨Nat.zero_le _, Nat.zero_le _⟩ dX11_breaths_3 ?_
  refine lv_if_ne (tgt := 25) hx hb dX11_breaths_6 (by decide) (fun c1 => ?_) (fun c1 => ?_)
  · have hf := ite_f c1 hf
    refine lv_bipush (v := (-2)) hx hb dX11_breaths_25 (by decide) ?_
    cases hf
    exact s_iret hx hb hr hI.2.2 hI.1 hlocks dX11_breaths_27
  · have hf := ite_t c1 hf
    refine lv_iload_n hx hb dX11_breaths_9 rfl (lv_at hl 2 rfl) ?_
    refine lv_iconst (v := (-1)) hx hb dX11_breaths_10 (by decide) ?_
    refine lv_icmp_eq (tgt := 28) hx hb dX11_breaths_11 (by decide) (fun c2 => ?_) (fun c2 => ?_)
    · have hf := ite_t c2 hf
      exact B28    G L O H locs ls (lv_sub hl [0, 1, 2] rfl) hI hf
    · have hf := ite_f c2 hf
      refine lv_iload_n hx hb dX11_breaths_14 rfl (lv_at hl 2 rfl) ?_
      refine lv_aload_n hx hb dX11_breaths_15 rfl (lv_at hl 0 rfl) ?_
      refine s_get (v := .int (G 100 4)) hx hb hu inU11 hown hK hI (mE hE.1 eC_100) rfl 4 (by decide) u2_179 (fun _ h => h) rfl rfl dX11_breaths_16 ?_
      refine s_cSP (np := 2) (rest := []) E (c_X11_outside l x2 (G 100 4) rfl) kyX11_outside u2_219 u2_220 (by decide) rfl hl.1 rfl (Nat.le_of_ble_eq_true rfl) ⟨Nat.zero_le _, Nat.zero_le _⟩ dX11_breaths_19 ?_
      refine lv_if_eq (tgt := 28) hx hb dX11_breaths_22 (by decide) (fun c14 => ?_) (fun c14 => ?_)
      · have hf := ite_t c14 hf
        exact B28    G L O H locs ls (lv_sub hl [0, 1, 2] rfl) hI hf
      · have hf := ite_f c14 hf
        refine lv_bipush (v := (-2)) hx hb dX11_breaths_25 (by decide) ?_
        cases hf
        exact s_iret hx hb hr hI.2.2 hI.1 hlocks dX11_breaths_27
noncomputable def f_X11_fewest  (x1 : Int32) (x2 : Int32) (x3 : Int32) : Option (Int32) := (if x1 < 1 then some (-2) else (if 40 < x1 then some (-2) else (if x2 < 1 then some (-2) else (if 18 < x2 then some (-2) else (if x3 < 0 then some (-2) else (if x3 ≤ 99 then chk (neB x1) (some ((((x3 * (x1 + x2)) + x1) - 1) / x1)) else some (-2)))))))
theorem kyX11_fewest : Ky yX11_fewest cX11_fewest 4 (some FieldType.int) 3 := ⟨u4_72, u1_1, by decide, by decide, by decide, by decide +kernel⟩
set_option maxHeartbeats 4000000 in
set_option maxRecDepth 100000 in
theorem c_X11_fewest (l : Launch) (D : va_G) (K : List Nat) (sh : Nat → Ent) (ad : Nat → Nat) (cy : Nat → ClassId) (X : va_W) (B : State → Prop) (hcl : Bcl (AS K ad X) B) (S : Nat → Nat) (hE : HC S K sh) (G : Mem) (L : MemL) (O : MemO) (x1 : Int32) (x2 : Int32) (x3 : Int32)  {vz : Int32} (hf : f_X11_fewest x1 x2 x3 = some vz) : Met l yX11_fewest (wsU yX11_fewest cX11_fewest 4 (some FieldType.int)) (rmX 1 0 0) (va_Pc [.ref (ad 100), .int x1, .int x2, .int x3] (PS D K sh ad cy X B G L O)) (QI (AS K ad X) (PH D K sh ad cy X G L O) vz) 0 0 (AS K ad X) := by
  refine s_met (by decide) (Nat.le_of_ble_eq_true rfl) ?_
  intro p e s m args below meth c ls H locs E hK hBs hnm hI hl
  have hl : lv_has ls 4 [(0, .ref (ad 100)), (1, .int x1), (2, .int x2), (3, .int x3)] := hl
  have E : Cx p s m args meth c RX11 cX11_fewest 4 (some FieldType.int) := E
  obtain ⟨hx, hb, hr, hml, hown, hu, hlocks⟩ := id E
  rw [f_X11_fewest] at hf
  refine lv_iload_n hx hb dX11_fewest_0 rfl (lv_at hl 1 rfl) ?_
  refine lv_iconst (v := 1) hx hb dX11_fewest_1 (by decide) ?_
  refine lv_icmp_lt (tgt := 32) hx hb dX11_fewest_2 (by decide) (fun c1 => ?_) (fun c1 => ?_)
  · have hf := ite_t c1 hf
    refine lv_bipush (v := (-2)) hx hb dX11_fewest_32 (by decide) ?_
    cases hf
    exact s_iret hx hb hr hI.2.2 hI.1 hlocks dX11_fewest_34
  · have hf := ite_f c1 hf
    refine lv_iload_n hx hb dX11_fewest_5 rfl (lv_at hl 1 rfl) ?_
    refine lv_bipush (v := 40) hx hb dX11_fewest_6 (by decide) ?_
    refine lv_icmp_gt (tgt := 32) hx hb dX11_fewest_8 (by decide) (fun c2 => ?_) (fun c2 => ?_)
    · have hf := ite_t c2 hf
      refine lv_bipush (v := (-2)) hx hb dX11_fewest_32 (by decide) ?_
      cases hf
      exact s_iret hx hb hr hI.2.2 hI.1 hlocks dX11_fewest_34
    · have hf := ite_f c2 hf
      refine lv_iload_n hx hb dX11_fewest_11 rfl (lv_at hl 2 rfl) ?_
      refine lv_iconst (v := 1) hx hb dX11_fewest_12 (by decide) ?_
      refine lv_icmp_lt (tgt := 32) hx hb dX11_fewest_13 (by decide) (fun c3 => ?_) (fun c3 => ?_)
      · have hf := ite_t c3 hf
        refine lv_bipush (v := (-2)) hx hb dX11_fewest_32 (by decide) ?_
        cases hf
        exact s_iret hx hb hr hI.2.2 hI.1 hlocks dX11_fewest_34
      · have hf := ite_f c3 hf
        refine lv_iload_n hx hb dX11_fewest_16 rfl (lv_at hl 2 rfl) ?_
        refine lv_bipush (v := 18) hx hb dX11_fewest_17 (by decide) ?_
        refine lv_icmp_gt (tgt := 32) hx hb dX11_fewest_19 (by decide) (fun c4 => ?_) (fun c4 => ?_)
        · have hf := ite_t c4 hf
          refine lv_bipush (v := (-2)) hx hb dX11_fewest_32 (by decide) ?_
          cases hf
          exact s_iret hx hb hr hI.2.2 hI.1 hlocks dX11_fewest_34
        · have hf := ite_f c4 hf
          refine lv_iload_n hx hb dX11_fewest_22 rfl (lv_at hl 3 rfl) ?_
          refine lv_if_lt (tgt := 32) hx hb dX11_fewest_23 (by decide) (fun c5 => ?_) (fun c5 => ?_)
          · have hf := ite_t c5 hf
            refine lv_bipush (v := (-2)) hx hb dX11_fewest_32 (by decide) ?_
            cases hf
            exact s_iret hx hb hr hI.2.2 hI.1 hlocks dX11_fewest_34
          · have hf := ite_f c5 hf
            refine lv_iload_n hx hb dX11_fewest_26 rfl (lv_at hl 3 rfl) ?_
            refine lv_bipush (v := 99) hx hb dX11_fewest_27 (by decide) ?_
            refine lv_icmp_le (tgt := 35) hx hb dX11_fewest_29 (by decide) (fun c6 => ?_) (fun c6 => ?_)
            · have hf := ite_t c6 hf
              refine lv_iload_n hx hb dX11_fewest_35 rfl (lv_at hl 3 rfl) ?_
              refine lv_iload_n hx hb dX11_fewest_36 rfl (lv_at hl 1 rfl) ?_
              refine lv_iload_n hx hb dX11_fewest_37 rfl (lv_at hl 2 rfl) ?_
              refine lv_iadd hx hb dX11_fewest_38 ?_
              refine lv_imul hx hb dX11_fewest_39 ?_
              refine lv_iload_n hx hb dX11_fewest_40 rfl (lv_at hl 1 rfl) ?_
              refine lv_iadd hx hb dX11_fewest_41 ?_
              refine lv_iconst (v := 1) hx hb dX11_fewest_42 (by decide) ?_
              refine lv_isub hx hb dX11_fewest_43 ?_
              refine lv_iload_n hx hb dX11_fewest_44 rfl (lv_at hl 1 rfl) ?_
              obtain ⟨h7, hf⟩ := chk_i hf
              refine lv_idiv hx hb dX11_fewest_45 (neB_i h7) ?_
              cases hf
              exact s_iret hx hb hr hI.2.2 hI.1 hlocks dX11_fewest_46
            · have hf := ite_f c6 hf
              refine lv_bipush (v := (-2)) hx hb dX11_fewest_32 (by decide) ?_
              cases hf
              exact s_iret hx hb hr hI.2.2 hI.1 hlocks dX11_fewest_34
noncomputable def q_X11_round_38 (S : Nat → Nat) (x1 : Int32) (x2 : Int32) (x3 : Int32)  (rec : (Mem × MemL × MemO × Int32) → Option (Mem × MemL × MemO × Int32)) : (Mem × MemL × MemO × Int32) → Option (Mem × MemL × MemO × Int32) := fun (G, L, O, x4) => (if 200 ≤ x4 then some (G, L, O, (-1)) else bndO (f_X1_advance G L O S x4 x2) (fun G9 => bndO (f_X1_stateOf G9 0 5) (fun v11 => chk (inB x4 200) (bnd (up2 L 137 x4.toNatClampNeg v11) (fun L14 => bndO (f_X1_stateOf G9 5 10) (fun v15 => chk (inB x4 200) (bnd (up2 L14 138 x4.toNatClampNeg v15) (fun L18 => bndO (f_X11_earlierLike L18 x4) (fun v19 => (if v19 = (-1) then bnd (x4 + 1) (fun x4_22 => rec (G9, L18, O, x4_22)) else (if x3 = 0 then some (G9, L18, O, x4) else some (G9, L18, O, v19))))))))))))
noncomputable def j_X11_round_10 (S : Nat → Nat) (x1 : Int32) (x2 : Int32) (x3 : Int32)  (G : Mem) (L : MemL) (O : MemO) : Option (Mem × MemL × MemO × Int32) := (if (f_X11_outside x2 10) = 0 then (if (f_X11_outside x3 2) = 0 then bndP3 (f_X11_prepare G L O S x1) (fun G4 L5 O6 => iter (q_X11_round_38 S x1 x2 x3) fuel (G4, L5, O6, 0)) else some (G, L, O, (-2))) else some (G, L, O, (-2)))
noncomputable def f_X11_round (G : Mem) (L : MemL) (O : MemO) (S : Nat → Nat) (x1 : Int32) (x2 : Int32) (x3 : Int32) : Option (Mem × MemL × MemO × Int32) := (if x1 = 0 then j_X11_round_10 S x1 x2 x3 G L O else (if x1 = 6 then j_X11_round_10 S x1 x2 x3 G L O else some (G, L, O, (-2))))
theorem kyX11_round : Ky yX11_round cX11_round 6 (some FieldType.int) 3 := ⟨u4_76, u1_1, by decide, by decide, by decide, by decide +kernel⟩
set_option maxHeartbeats 4000000 in
set_option maxRecDepth 100000 in
theorem c_X11_round (l : Launch) (D : va_G) (K : List Nat) (sh : Nat → Ent) (ad : Nat → Nat) (cy : Nat → ClassId) (X : va_W) (B : State → Prop) (hcl : Bcl (AS K ad X) B) (S : Nat → Nat) (hE : HC S K sh) (G : Mem) (L : MemL) (O : MemO) (x1 : Int32) (x2 : Int32) (x3 : Int32) {Gz : Mem} {Lz : MemL} {Oz : MemO} {vz : Int32} (hf : f_X11_round G L O S x1 x2 x3 = some (Gz, Lz, Oz, vz)) : Met l yX11_round (wsU yX11_round cX11_round 6 (some FieldType.int)) (rmX 7 0 0) (va_Pc [.ref (ad 100), .int x1, .int x2, .int x3] (PS D K sh ad cy X B G L O)) (QI (AS K ad X) (PH D K sh ad cy X Gz Lz Oz) vz) 0 0 (AS K ad X) := by
  refine s_met (by decide) (Nat.le_of_ble_eq_true rfl) ?_
  intro p e s m args below meth c ls H locs E hK hBs hnm hI hl
  have hl : lv_has ls 6 [(0, .ref (ad 100)), (1, .int x1), (2, .int x2), (3, .int x3)] := hl
  have E : Cx p s m args meth c RX11 cX11_round 6 (some FieldType.int) := E
  obtain ⟨hx, hb, hr, hml, hown, hu, hlocks⟩ := id E
  have B38 : ∀   (n : Nat) (G : Mem) (L : MemL) (O : MemO) (x4 : Int32) (H : Heap) (locs : List Loc) (ls : Array Slot), lv_has ls 6 [(0, .ref (ad 100)), (2, .int x2), (3, .int x3), (4, .int x4)] → IS D K sh ad cy X (AS K ad X) s.heap H locs G L O → iter (q_X11_round_38 S x1 x2 x3) n (G, L, O, x4) = some (Gz, Lz, Oz, vz) → W p l e (rmX 7 0 0) s m args below meth c H locs 0 0 (MQ below (QI (AS K ad X) (PH D K sh ad cy X Gz Lz Oz) vz) args s 0 0 (AS K ad X)) (F0 m 38 ls []) := by
    intro n
    induction n with
    | zero => intro G L O x4 H locs ls hl hI hf; exact iter_0 hf
    | succ n ih =>
      intro G L O x4 H locs ls hl hI hf
      have hf : q_X11_round_38 S x1 x2 x3 (iter (q_X11_round_38 S x1 x2 x3) n) (G, L, O, x4) = some (Gz, Lz, Oz, vz) := hf
      rw [q_X11_round_38] at hf
      refine lv_iload hx hb dX11_round_38 (lv_at hl 3 rfl) ?_
      refine lv_sipush (v := 200) hx hb dX11_round_40 (by decide) ?_
      refine lv_icmp_ge (tgt := 121) hx hb dX11_round_43 (by decide) (fun c8 => ?_) (fun c8 => ?_)
      · have hf := ite_t c8 hf
        refine lv_iconst (v := (-1)) hx hb dX11_round_121 (by decide) ?_
        cases hf
        exact s_iret hx hb hr hI.2.2 hI.1 hlocks dX11_round_122
      · have hf := ite_f c8 hf
        refine lv_aload_n hx hb dX11_round_46 rfl (lv_at hl 0 rfl) ?_
        refine s_get (v := .ref (ad 128)) hx hb hu inU11 hown hK hI (mE hE.1 eC_100) rfl 9 (by decide) u2_184 (fun _ h => h) rfl rfl dX11_round_47 ?_
        refine lv_iload hx hb dX11_round_50 (lv_at hl 3 rfl) ?_
        refine lv_iload_n hx hb dX11_round_52 rfl (lv_at hl 1 rfl) ?_
        obtain ⟨G9, h10, hf⟩ := bndO_i hf
        refine s_afV hI (s_runV (rest := []) (As := [.int x4, .int x2]) (np := 2) E hK hI (s_B hcl hBs hI) hcl.2 (mE hE.1 eC_128) rfl (c_X1_advance l D K sh ad cy X B hcl S hE G L O x4 x2 h10) kyX1_advance u3_215 u3_216 u3_217 (by decide) rfl hl.1 rfl (Nat.le_of_ble_eq_true rfl) ⟨Nat.zero_le _, Nat.zero_le _⟩ dX11_round_53) (fun H locs hI => ?_)
        refine lv_aload_n hx hb dX11_round_56 rfl (lv_at hl 0 rfl) ?_
        refine s_get (v := .ref (ad 137)) hx hb hu inU11 hown hK hI (mE hE.1 eC_100) rfl 10 (by decide) u2_185 (fun _ h => h) rfl rfl dX11_round_57 ?_
        refine lv_iload hx hb dX11_round_60 (lv_at hl 3 rfl) ?_
        refine lv_aload_n hx hb dX11_round_62 rfl (lv_at hl 0 rfl) ?_
        refine s_get (v := .ref (ad 128)) hx hb hu inU11 hown hK hI (mE hE.1 eC_100) rfl 9 (by decide) u2_184 (fun _ h => h) rfl rfl dX11_round_63 ?_
        refine lv_iconst (v := 0) hx hb dX11_round_66 (by decide) ?_
        refine lv_iconst (v := 5) hx hb dX11_round_67 (by decide) ?_
        obtain ⟨v11, h12, hf⟩ := bndO_i hf
        refine s_afL hI (s_runV (rest := [.int x4, .ref (ad 137)]) (As := [.int 0, .int 5]) (np := 2) E hK hI (s_B hcl hBs hI) hcl.2 (mE hE.1 eC_128) rfl (c_X1_stateOf l D K sh ad cy X B hcl S hE G9 L O 0 5 h12) kyX1_stateOf u4_77 u4_78 u4_79 (by decide) rfl hl.1 rfl (Nat.le_of_ble_eq_true rfl) ⟨Nat.zero_le _, Nat.zero_le _⟩ dX11_round_68) (fun H locs hI => ?_)
        obtain ⟨h13, hf⟩ := chk_i hf
        obtain ⟨L14, eL14, hf⟩ := bnd_i hf
        refine s_lst hx hb hK hI (mE hE.1 eC_137) (inB_i h13) eL14 dX11_round_71 (fun H locs hI => ?_)
        refine lv_aload_n hx hb dX11_round_72 rfl (lv_at hl 0 rfl) ?_
        refine s_get (v := .ref (ad 138)) hx hb hu inU11 hown hK hI (mE hE.1 eC_100) rfl 11 (by decide) u2_186 (fun _ h => h) rfl rfl dX11_round_73 ?_
        refine lv_iload hx hb dX11_round_76 (lv_at hl 3 rfl) ?_
        refine lv_aload_n hx hb dX11_round_78 rfl (lv_at hl 0 rfl) ?_
        refine s_get (v := .ref (ad 128)) hx hb hu inU11 hown hK hI (mE hE.1 eC_100) rfl 9 (by decide) u2_184 (fun _ h => h) rfl rfl dX11_round_79 ?_
        refine lv_iconst (v := 5) hx hb dX11_round_82 (by decide) ?_
        refine lv_bipush (v := 10) hx hb dX11_round_83 (by decide) ?_
        obtain ⟨v15, h16, hf⟩ := bndO_i hf
        refine s_afL hI (s_runV (rest := [.int x4, .ref (ad 138)]) (As := [.int 5, .int 10]) (np := 2) E hK hI (s_B hcl hBs hI) hcl.2 (mE hE.1 eC_128) rfl (c_X1_stateOf l D K sh ad cy X B hcl S hE G9 L14 O 5 10 h16) kyX1_stateOf u4_77 u4_78 u4_79 (by decide) rfl hl.1 rfl (Nat.le_of_ble_eq_true rfl) ⟨Nat.zero_le _, Nat.zero_le _⟩ dX11_round_85) (fun H locs hI => ?_)
        obtain ⟨h17, hf⟩ := chk_i hf
        obtain ⟨L18, eL18, hf⟩ := bnd_i hf
        refine s_lst hx hb hK hI (mE hE.1 eC_138) (inB_i h17) eL18 dX11_round_88 (fun H locs hI => ?_)
        refine lv_aload_n hx hb dX11_round_89 rfl (lv_at hl 0 rfl) ?_
        refine lv_iload hx hb dX11_round_90 (lv_at hl 3 rfl) ?_
        obtain ⟨v19, h20, hf⟩ := bndO_i hf
        refine s_afI hI (s_runV (rest := []) (As := [.int x4]) (np := 1) E hK hI (s_B hcl hBs hI) hcl.2 (mE hE.1 eC_100) rfl (c_X11_earlierLike l D K sh ad cy X B hcl S hE G9 L18 O x4 h20) kyX11_earlierLike u4_81 u4_83 up_24 (by decide) rfl hl.1 rfl (Nat.le_of_ble_eq_true rfl) ⟨Nat.zero_le _, Nat.zero_le _⟩ dX11_round_92) (fun H locs hI => ?_)
        refine lv_istore (lv' := [(5, .int v19), (0, .ref (ad 100)), (2, .int x2), (3, .int x3), (4, .int x4)]) hx hb dX11_round_95 hl (by decide) rfl (fun ls hl => ?_)
        refine lv_iload hx hb dX11_round_97 (lv_at hl 0 rfl) ?_
        refine lv_iconst (v := (-1)) hx hb dX11_round_99 (by decide) ?_
        refine lv_icmp_eq (tgt := 115) hx hb dX11_round_100 (by decide) (fun c21 => ?_) (fun c21 => ?_)
        · have hf := ite_t c21 hf
          obtain ⟨x4_22, ex4_22, hf⟩ := bnd_i hf
          refine lv_iinc (v := x4_22) (lv' := [(4, .int x4_22), (5, .int v19), (0, .ref (ad 100)), (2, .int x2), (3, .int x3)]) hx hb dX11_round_115 hl (k := 4) rfl (by rw [ex4_22]; rfl) (by decide) rfl (fun ls hl => ?_)
          refine lv_goto (tgt := 38) hx hb dX11_round_118 (by decide) ?_
          exact ih G9 L18 O x4_22 H locs ls (lv_sub hl [2, 3, 4, 0] rfl) hI hf
        · have hf := ite_f c21 hf
          refine lv_iload_n hx hb dX11_round_103 rfl (lv_at hl 3 rfl) ?_
          refine lv_if_ne (tgt := 112) hx hb dX11_round_104 (by decide) (fun c23 => ?_) (fun c23 => ?_)
          · have hf := ite_f c23 hf
            refine lv_iload hx hb dX11_round_112 (lv_at hl 0 rfl) ?_
            cases hf
            exact s_iret hx hb hr hI.2.2 hI.1 hlocks dX11_round_114
          · have hf := ite_t c23 hf
            refine lv_iload hx hb dX11_round_107 (lv_at hl 4 rfl) ?_
            refine lv_goto (tgt := 114) hx hb dX11_round_109 (by decide) ?_
            cases hf
            exact s_iret hx hb hr hI.2.2 hI.1 hlocks dX11_round_114
  have B10 : ∀    (G : Mem) (L : MemL) (O : MemO) (H : Heap) (locs : List Loc) (ls : Array Slot), lv_has ls 6 [(0, .ref (ad 100)), (1, .int x1), (2, .int x2), (3, .int x3)] → IS D K sh ad cy X (AS K ad X) s.heap H locs G L O → j_X11_round_10 S x1 x2 x3 G L O = some (Gz, Lz, Oz, vz) → W p l e (rmX 7 0 0) s m args below meth c H locs 0 0 (MQ below (QI (AS K ad X) (PH D K sh ad cy X Gz Lz Oz) vz) args s 0 0 (AS K ad X)) (F0 m 10 ls []) := by
    intro  G L O H locs ls hl hI hf
    rw [j_X11_round_10] at hf
    refine lv_iload_n hx hb dX11_round_10 rfl (lv_at hl 2 rfl) ?_
    refine lv_bipush (v := 10) hx hb dX11_round_11 (by decide) ?_
    refine s_cSP (np := 2) (rest := []) E (c_X11_outside l x2 10 rfl) kyX11_outside u2_219 u2_220 (by decide) rfl hl.1 rfl (Nat.le_of_ble_eq_true rfl) ⟨Nat.zero_le _, Nat.zero_le _⟩ dX11_round_13 ?_
    refine lv_if_ne (tgt := 27) hx hb dX11_round_16 (by decide) (fun c2 => ?_) (fun c2 => ?_)
    · have hf := ite_f c2 hf
      refine lv_bipush (v := (-2)) hx hb dX11_round_27 (by decide) ?_
      cases hf
      exact s_iret hx hb hr hI.2.2 hI.1 hlocks dX11_round_29
    · have hf := ite_t c2 hf
      refine lv_iload_n hx hb dX11_round_19 rfl (lv_at hl 3 rfl) ?_
      refine lv_iconst (v := 2) hx hb dX11_round_20 (by decide) ?_
      refine s_cSP (np := 2) (rest := []) E (c_X11_outside l x3 2 rfl) kyX11_outside u2_219 u2_220 (by decide) rfl hl.1 rfl (Nat.le_of_ble_eq_true rfl) ⟨Nat.zero_le _, Nat.zero_le _⟩ dX11_round_21 ?_
      refine lv_if_eq (tgt := 30) hx hb dX11_round_24 (by decide) (fun c3 => ?_) (fun c3 => ?_)
      · have hf := ite_t c3 hf
        refine lv_aload_n hx hb dX11_round_30 rfl (lv_at hl 0 rfl) ?_
        refine lv_iload_n hx hb dX11_round_31 rfl (lv_at hl 1 rfl) ?_
        obtain ⟨G4, L5, O6, h7, hf⟩ := bndP3_i hf
        refine s_afV hI (s_runV (rest := []) (As := [.int x1]) (np := 1) E hK hI (s_B hcl hBs hI) hcl.2 (mE hE.1 eC_100) rfl (c_X11_prepare l D K sh ad cy X B hcl S hE G L O x1 h7) kyX11_prepare u3_194 u3_196 up_17 (by decide) rfl hl.1 rfl (Nat.le_of_ble_eq_true rfl) ⟨Nat.zero_le _, Nat.zero_le _⟩ dX11_round_32) (fun H locs hI => ?_)
        refine lv_iconst (v := 0) hx hb dX11_round_35 (by decide) ?_
        refine lv_istore (lv' := [(4, .int 0), (0, .ref (ad 100)), (1, .int x1), (2, .int x2), (3, .int x3)]) hx hb dX11_round_36 hl (by decide) rfl (fun ls hl => ?_)
        exact B38   fuel G4 L5 O6 0 H locs ls (lv_sub hl [1, 3, 4, 0] rfl) hI hf
      · have hf := ite_f c3 hf
        refine lv_bipush (v := (-2)) hx hb dX11_round_27 (by decide) ?_
        cases hf
        exact s_iret hx hb hr hI.2.2 hI.1 hlocks dX11_round_29
  rw [f_X11_round] at hf
  refine lv_iload_n hx hb dX11_round_0 rfl (lv_at hl 1 rfl) ?_
  refine lv_if_eq (tgt := 10) hx hb dX11_round_1 (by decide) (fun c1 => ?_) (fun c1 => ?_)
  · have hf := ite_t c1 hf
    exact B10    G L O H locs ls (lv_sub hl [0, 1, 2, 3] rfl) hI hf
  · have hf := ite_f c1 hf
    refine lv_iload_n hx hb dX11_round_4 rfl (lv_at hl 1 rfl) ?_
    refine lv_bipush (v := 6) hx hb dX11_round_5 (by decide) ?_
    refine lv_icmp_ne (tgt := 27) hx hb dX11_round_7 (by decide) (fun c24 => ?_) (fun c24 => ?_)
    · have hf := ite_f c24 hf
      refine lv_bipush (v := (-2)) hx hb dX11_round_27 (by decide) ?_
      cases hf
      exact s_iret hx hb hr hI.2.2 hI.1 hlocks dX11_round_29
    · have hf := ite_t c24 hf
      exact B10    G L O H locs ls (lv_sub hl [0, 1, 2, 3] rfl) hI hf
noncomputable def f_X11_lent (G : Mem) (L : MemL) (O : MemO) (S : Nat → Nat) (x1 : Int32) (x2 : Int32) (x3 : Int32) : Option (Mem × MemL × MemO × Int64) := (if (f_X11_outside x1 7) = 0 then (if (f_X11_outside x2 (G 100 4)) = 0 then (if (f_X11_outside x3 4) = 0 then bndO (f_X11_isMissing G O S x1) (fun v4 => (if v4 = 0 then bndP3 (f_X11_prepare G L O S x1) (fun G7 L8 O9 => bndO (f_X1_weigh G7 O9 S) (fun G11 => bndP (f_X1_badOfAll G11 L8 O9 S) (fun G13 v14 => chk (inB x2 10) (bnd (G13 106 x2.toNatClampNeg) (fun x6_17 => chk (inB x2 10) (bnd (up2 G13 106 x2.toNatClampNeg x3) (fun G19 => bndP (f_X1_badOfAll G19 L8 O9 S) (fun G20 v21 => chk (inB x2 10) (bnd (up2 G20 106 x2.toNatClampNeg x6_17) (fun G24 => some (G24, L8, O9, (v21 - v14)))))))))))) else some (G, L, O, (-4611686018427387904)))) else some (G, L, O, (-4611686018427387904))) else some (G, L, O, (-4611686018427387904))) else some (G, L, O, (-4611686018427387904)))
theorem kyX11_lent : Ky yX11_lent cX11_lent 9 (some FieldType.long) 3 := ⟨u4_88, u1_1, by decide, by decide, by decide, by decide +kernel⟩
set_option maxHeartbeats 4000000 in
set_option maxRecDepth 100000 in
theorem c_X11_lent (l : Launch) (D : va_G) (K : List Nat) (sh : Nat → Ent) (ad : Nat → Nat) (cy : Nat → ClassId) (X : va_W) (B : State → Prop) (hcl : Bcl (AS K ad X) B) (S : Nat → Nat) (hE : HC S K sh) (G : Mem) (L : MemL) (O : MemO) (x1 : Int32) (x2 : Int32) (x3 : Int32) {Gz : Mem} {Lz : MemL} {Oz : MemO} {vz : Int64} (hf : f_X11_lent G L O S x1 x2 x3 = some (Gz, Lz, Oz, vz)) : Met l yX11_lent (wsU yX11_lent cX11_lent 9 (some FieldType.long)) (rmX 8 0 0) (va_Pc [.ref (ad 100), .int x1, .int x2, .int x3] (PS D K sh ad cy X B G L O)) (QL (AS K ad X) (PH D K sh ad cy X Gz Lz Oz) vz) 0 0 (AS K ad X) := by
  refine s_met (by decide) (Nat.le_of_ble_eq_true rfl) ?_
  intro p e s m args below meth c ls H locs E hK hBs hnm hI hl
  have hl : lv_has ls 9 [(0, .ref (ad 100)), (1, .int x1), (2, .int x2), (3, .int x3)] := hl
  have E : Cx p s m args meth c RX11 cX11_lent 9 (some FieldType.long) := E
  obtain ⟨hx, hb, hr, hml, hown, hu, hlocks⟩ := id E
  rw [f_X11_lent] at hf
  refine lv_iload_n hx hb dX11_lent_0 rfl (lv_at hl 1 rfl) ?_
  refine lv_bipush (v := 7) hx hb dX11_lent_1 (by decide) ?_
  refine s_cSP (np := 2) (rest := []) E (c_X11_outside l x1 7 rfl) kyX11_outside u2_219 u2_220 (by decide) rfl hl.1 rfl (Nat.le_of_ble_eq_true rfl) ⟨Nat.zero_le _, Nat.zero_le _⟩ dX11_lent_3 ?_
  refine lv_if_ne (tgt := 36) hx hb dX11_lent_6 (by decide) (fun c1 => ?_) (fun c1 => ?_)
  · have hf := ite_f c1 hf
    refine lv_ldc2 (v := (-4611686018427387904)) hx hb hown (hu _ u4_45) dX11_lent_36 ?_
    cases hf
    exact s_lret hx hb hr hI.2.2 hI.1 hlocks dX11_lent_39
  · have hf := ite_t c1 hf
    refine lv_iload_n hx hb dX11_lent_9 rfl (lv_at hl 2 rfl) ?_
    refine lv_aload_n hx hb dX11_lent_10 rfl (lv_at hl 0 rfl) ?_
    refine s_get (v := .int (G 100 4)) hx hb hu inU11 hown hK hI (mE hE.1 eC_100) rfl 4 (by decide) u2_179 (fun _ h => h) rfl rfl dX11_lent_11 ?_
    refine s_cSP (np := 2) (rest := []) E (c_X11_outside l x2 (G 100 4) rfl) kyX11_outside u2_219 u2_220 (by decide) rfl hl.1 rfl (Nat.le_of_ble_eq_true rfl) ⟨Nat.zero_le _, Nat.zero_le _⟩ dX11_lent_14 ?_
    refine lv_if_ne (tgt := 36) hx hb dX11_lent_17 (by decide) (fun c2 => ?_) (fun c2 => ?_)
    · have hf := ite_f c2 hf
      refine lv_ldc2 (v := (-4611686018427387904)) hx hb hown (hu _ u4_45) dX11_lent_36 ?_
      cases hf
      exact s_lret hx hb hr hI.2.2 hI.1 hlocks dX11_lent_39
    · have hf := ite_t c2 hf
      refine lv_iload_n hx hb dX11_lent_20 rfl (lv_at hl 3 rfl) ?_
      refine lv_iconst (v := 4) hx hb dX11_lent_21 (by decide) ?_
      refine s_cSP (np := 2) (rest := []) E (c_X11_outside l x3 4 rfl) kyX11_outside u2_219 u2_220 (by decide) rfl hl.1 rfl (Nat.le_of_ble_eq_true rfl) ⟨Nat.zero_le _, Nat.zero_le _⟩ dX11_lent_22 ?_
      refine lv_if_ne (tgt := 36) hx hb dX11_lent_25 (by decide) (fun c3 => ?_) (fun c3 => ?_)
      · have hf := ite_f c3 hf
        refine lv_ldc2 (v := (-4611686018427387904)) hx hb hown (hu _ u4_45) dX11_lent_36 ?_
        cases hf
        exact s_lret hx hb hr hI.2.2 hI.1 hlocks dX11_lent_39
      · have hf := ite_t c3 hf
        refine lv_aload_n hx hb dX11_lent_28 rfl (lv_at hl 0 rfl) ?_
        refine lv_iload_n hx hb dX11_lent_29 rfl (lv_at hl 1 rfl) ?_
        obtain ⟨v4, h5, hf⟩ := bndO_i hf
        refine s_afI hI (s_runV (rest := []) (As := [.int x1]) (np := 1) E hK hI (s_B hcl hBs hI) hcl.2 (mE hE.1 eC_100) rfl (c_X11_isMissing l D K sh ad cy X B hcl S hE G L O x1 h5) kyX11_isMissing u3_179 u3_181 up_15 (by decide) rfl hl.1 rfl (Nat.le_of_ble_eq_true rfl) ⟨Nat.zero_le _, Nat.zero_le _⟩ dX11_lent_30) (fun H locs hI => ?_)
        refine lv_if_eq (tgt := 40) hx hb dX11_lent_33 (by decide) (fun c6 => ?_) (fun c6 => ?_)
        · have hf := ite_t c6 hf
          refine lv_aload_n hx hb dX11_lent_40 rfl (lv_at hl 0 rfl) ?_
          refine lv_iload_n hx hb dX11_lent_41 rfl (lv_at hl 1 rfl) ?_
          obtain ⟨G7, L8, O9, h10, hf⟩ := bndP3_i hf
          refine s_afV hI (s_runV (rest := []) (As := [.int x1]) (np := 1) E hK hI (s_B hcl hBs hI) hcl.2 (mE hE.1 eC_100) rfl (c_X11_prepare l D K sh ad cy X B hcl S hE G L O x1 h10) kyX11_prepare u3_194 u3_196 up_17 (by decide) rfl hl.1 rfl (Nat.le_of_ble_eq_true rfl) ⟨Nat.zero_le _, Nat.zero_le _⟩ dX11_lent_42) (fun H locs hI => ?_)
          refine lv_aload_n hx hb dX11_lent_45 rfl (lv_at hl 0 rfl) ?_
          refine s_get (v := .ref (ad 128)) hx hb hu inU11 hown hK hI (mE hE.1 eC_100) rfl 9 (by decide) u2_184 (fun _ h => h) rfl rfl dX11_lent_46 ?_
          obtain ⟨G11, h12, hf⟩ := bndO_i hf
          refine s_afV hI (s_runV (rest := []) (As := []) (np := 0) E hK hI (s_B hcl hBs hI) hcl.2 (mE hE.1 eC_128) rfl (c_X1_weigh l D K sh ad cy X B hcl S hE G7 L8 O9  h12) kyX1_weigh u4_46 u4_47 u4_48 (by decide) rfl hl.1 rfl (Nat.le_of_ble_eq_true rfl) ⟨Nat.zero_le _, Nat.zero_le _⟩ dX11_lent_49) (fun H locs hI => ?_)
          refine lv_aload_n hx hb dX11_lent_52 rfl (lv_at hl 0 rfl) ?_
          refine s_get (v := .ref (ad 128)) hx hb hu inU11 hown hK hI (mE hE.1 eC_100) rfl 9 (by decide) u2_184 (fun _ h => h) rfl rfl dX11_lent_53 ?_
          obtain ⟨G13, v14, h15, hf⟩ := bndP_i hf
          refine s_afL hI (s_runV (rest := []) (As := []) (np := 0) E hK hI (s_B hcl hBs hI) hcl.2 (mE hE.1 eC_128) rfl (c_X1_badOfAll l D K sh ad cy X B hcl S hE G11 L8 O9  h15) kyX1_badOfAll u4_52 u4_53 u4_54 (by decide) rfl hl.1 rfl (Nat.le_of_ble_eq_true rfl) ⟨Nat.zero_le _, Nat.zero_le _⟩ dX11_lent_56) (fun H locs hI => ?_)
          refine lv_lstore (lv' := [(4, .long v14), (0, .ref (ad 100)), (1, .int x1), (2, .int x2), (3, .int x3)]) hx hb dX11_lent_59 hl (by decide) rfl (fun ls hl => ?_)
          refine lv_aload_n hx hb dX11_lent_61 rfl (lv_at hl 1 rfl) ?_
          refine s_get (v := .ref (ad 101)) hx hb hu inU11 hown hK hI (mE hE.1 eC_100) rfl 0 (by decide) u2_175 (fun _ h => h) rfl rfl dX11_lent_62 ?_
          refine s_get (v := .ref (ad 106)) hx hb hu inU4 hown hK hI (mE hE.1 eC_101) rfl 4 (by decide) u1_53 (fun _ h => h) rfl rfl dX11_lent_65 ?_
          refine lv_iload_n hx hb dX11_lent_68 rfl (lv_at hl 3 rfl) ?_
          obtain ⟨h16, hf⟩ := chk_i hf
          refine s_ild hx hb hK hI (mE hE.1 eC_106) (inB_i h16) dX11_lent_69 ?_
          obtain ⟨x6_17, ex6_17, hf⟩ := bnd_i hf
          refine s_nmI ex6_17 ?_
          refine lv_istore (lv' := [(6, .int x6_17), (4, .long v14), (0, .ref (ad 100)), (1, .int x1), (2, .int x2), (3, .int x3)]) hx hb dX11_lent_70 hl (by decide) rfl (fun ls hl => ?_)
          refine lv_aload_n hx hb dX11_lent_72 rfl (lv_at hl 2 rfl) ?_
          refine s_get (v := .ref (ad 101)) hx hb hu inU11 hown hK hI (mE hE.1 eC_100) rfl 0 (by decide) u2_175 (fun _ h => h) rfl rfl dX11_lent_73 ?_
          refine s_get (v := .ref (ad 106)) hx hb hu inU4 hown hK hI (mE hE.1 eC_101) rfl 4 (by decide) u1_53 (fun _ h => h) rfl rfl dX11_lent_76 ?_
          refine lv_iload_n hx hb dX11_lent_79 rfl (lv_at hl 4 rfl) ?_
          refine lv_iload_n hx hb dX11_lent_80 rfl (lv_at hl 5 rfl) ?_
          obtain ⟨h18, hf⟩ := chk_i hf
          obtain ⟨G19, eG19, hf⟩ := bnd_i hf
          refine s_ist hx hb hK hI (mE hE.1 eC_106) (inB_i h18) eG19 dX11_lent_81 (fun H locs hI => ?_)
          refine lv_aload_n hx hb dX11_lent_82 rfl (lv_at hl 2 rfl) ?_
          refine s_get (v := .ref (ad 128)) hx hb hu inU11 hown hK hI (mE hE.1 eC_100) rfl 9 (by decide) u2_184 (fun _ h => h) rfl rfl dX11_lent_83 ?_
          obtain ⟨G20, v21, h22, hf⟩ := bndP_i hf
          refine s_afL hI (s_runV (rest := []) (As := []) (np := 0) E hK hI (s_B hcl hBs hI) hcl.2 (mE hE.1 eC_128) rfl (c_X1_badOfAll l D K sh ad cy X B hcl S hE G19 L8 O9  h22) kyX1_badOfAll u4_52 u4_53 u4_54 (by decide) rfl hl.1 rfl (Nat.le_of_ble_eq_true rfl) ⟨Nat.zero_le _, Nat.zero_le _⟩ dX11_lent_86) (fun H locs hI => ?_)
          refine lv_lstore (lv' := [(7, .long v21), (6, .int x6_17), (4, .long v14), (0, .ref (ad 100)), (1, .int x1), (2, .int x2), (3, .int x3)]) hx hb dX11_lent_89 hl (by decide) rfl (fun ls hl => ?_)
          refine lv_aload_n hx hb dX11_lent_91 rfl (lv_at hl 3 rfl) ?_
          refine s_get (v := .ref (ad 101)) hx hb hu inU11 hown hK hI (mE hE.1 eC_100) rfl 0 (by decide) u2_175 (fun _ h => h) rfl rfl dX11_lent_92 ?_
          refine s_get (v := .ref (ad 106)) hx hb hu inU4 hown hK hI (mE hE.1 eC_101) rfl 4 (by decide) u1_53 (fun _ h => h) rfl rfl dX11_lent_95 ?_
          refine lv_iload_n hx hb dX11_lent_98 rfl (lv_at hl 5 rfl) ?_
          refine lv_iload hx hb dX11_lent_99 (lv_at hl 1 rfl) ?_
          obtain ⟨h23, hf⟩ := chk_i hf
          obtain ⟨G24, eG24, hf⟩ := bnd_i hf
          refine s_ist hx hb hK hI (mE hE.1 eC_106) (inB_i h23) eG24 dX11_lent_101 (fun H locs hI => ?_)
          refine lv_lload hx hb dX11_lent_102 (lv_at hl 0 rfl) ?_
          refine lv_lload hx hb dX11_lent_104 (lv_at hl 2 rfl) ?_
          refine lv_lsub hx hb dX11_lent_106 ?_
          cases hf
          exact s_lret hx hb hr hI.2.2 hI.1 hlocks dX11_lent_107
        · have hf := ite_f c6 hf
          refine lv_ldc2 (v := (-4611686018427387904)) hx hb hown (hu _ u4_45) dX11_lent_36 ?_
          cases hf
          exact s_lret hx hb hr hI.2.2 hI.1 hlocks dX11_lent_39
noncomputable def f_X11_lost (G : Mem) (L : MemL) (O : MemO) (S : Nat → Nat) (x1 : Int32) (x2 : Int32) (x3 : Int32) : Option (Mem × MemL × MemO × Int64) := (if (f_X11_outside x1 7) = 0 then (if (f_X11_outside x2 (G 100 4)) = 0 then (if (f_X11_outside x3 48) = 0 then bndO (f_X11_isMissing G O S x1) (fun v4 => (if v4 = 0 then bndP3 (f_X11_prepare G L O S x1) (fun G7 L8 O9 => bndO (f_X1_weigh G7 O9 S) (fun G11 => bndP (f_X1_badOfAll G11 L8 O9 S) (fun G13 v14 => bndO (f_X1_lose G13 x2 x3) (fun G16 => bndP (f_X1_badOfAll G16 L8 O9 S) (fun G18 v19 => some (G18, L8, O9, (v19 - v14))))))) else some (G, L, O, (-4611686018427387904)))) else some (G, L, O, (-4611686018427387904))) else some (G, L, O, (-4611686018427387904))) else some (G, L, O, (-4611686018427387904)))
theorem kyX11_lost : Ky yX11_lost cX11_lost 6 (some FieldType.long) 3 := ⟨u4_92, u1_1, by decide, by decide, by decide, by decide +kernel⟩
set_option maxHeartbeats 4000000 in
set_option maxRecDepth 100000 in
theorem c_X11_lost (l : Launch) (D : va_G) (K : List Nat) (sh : Nat → Ent) (ad : Nat → Nat) (cy : Nat → ClassId) (X : va_W) (B : State → Prop) (hcl : Bcl (AS K ad X) B) (S : Nat → Nat) (hE : HC S K sh) (G : Mem) (L : MemL) (O : MemO) (x1 : Int32) (x2 : Int32) (x3 : Int32) {Gz : Mem} {Lz : MemL} {Oz : MemO} {vz : Int64} (hf : f_X11_lost G L O S x1 x2 x3 = some (Gz, Lz, Oz, vz)) : Met l yX11_lost (wsU yX11_lost cX11_lost 6 (some FieldType.long)) (rmX 8 0 0) (va_Pc [.ref (ad 100), .int x1, .int x2, .int x3] (PS D K sh ad cy X B G L O)) (QL (AS K ad X) (PH D K sh ad cy X Gz Lz Oz) vz) 0 0 (AS K ad X) := by
  refine s_met (by decide) (Nat.le_of_ble_eq_true rfl) ?_
  intro p e s m args below meth c ls H locs E hK hBs hnm hI hl
  have hl : lv_has ls 6 [(0, .ref (ad 100)), (1, .int x1), (2, .int x2), (3, .int x3)] := hl
  have E : Cx p s m args meth c RX11 cX11_lost 6 (some FieldType.long) := E
  obtain ⟨hx, hb, hr, hml, hown, hu, hlocks⟩ := id E
  rw [f_X11_lost] at hf
  refine lv_iload_n hx hb dX11_lost_0 rfl (lv_at hl 1 rfl) ?_
  refine lv_bipush (v := 7) hx hb dX11_lost_1 (by decide) ?_
  refine s_cSP (np := 2) (rest := []) E (c_X11_outside l x1 7 rfl) kyX11_outside u2_219 u2_220 (by decide) rfl hl.1 rfl (Nat.le_of_ble_eq_true rfl) ⟨Nat.zero_le _, Nat.zero_le _⟩ dX11_lost_3 ?_
  refine lv_if_ne (tgt := 37) hx hb dX11_lost_6 (by decide) (fun c1 => ?_) (fun c1 => ?_)
  · have hf := ite_f c1 hf
    refine lv_ldc2 (v := (-4611686018427387904)) hx hb hown (hu _ u4_45) dX11_lost_37 ?_
    cases hf
    exact s_lret hx hb hr hI.2.2 hI.1 hlocks dX11_lost_40
  · have hf := ite_t c1 hf
    refine lv_iload_n hx hb dX11_lost_9 rfl (lv_at hl 2 rfl) ?_
    refine lv_aload_n hx hb dX11_lost_10 rfl (lv_at hl 0 rfl) ?_
    refine s_get (v := .int (G 100 4)) hx hb hu inU11 hown hK hI (mE hE.1 eC_100) rfl 4 (by decide) u2_179 (fun _ h => h) rfl rfl dX11_lost_11 ?_
    refine s_cSP (np := 2) (rest := []) E (c_X11_outside l x2 (G 100 4) rfl) kyX11_outside u2_219 u2_220 (by decide) rfl hl.1 rfl (Nat.le_of_ble_eq_true rfl) ⟨Nat.zero_le _, Nat.zero_le _⟩ dX11_lost_14 ?_
    refine lv_if_ne (tgt := 37) hx hb dX11_lost_17 (by decide) (fun c2 => ?_) (fun c2 => ?_)
    · have hf := ite_f c2 hf
      refine lv_ldc2 (v := (-4611686018427387904)) hx hb hown (hu _ u4_45) dX11_lost_37 ?_
      cases hf
      exact s_lret hx hb hr hI.2.2 hI.1 hlocks dX11_lost_40
    · have hf := ite_t c2 hf
      refine lv_iload_n hx hb dX11_lost_20 rfl (lv_at hl 3 rfl) ?_
      refine lv_bipush (v := 48) hx hb dX11_lost_21 (by decide) ?_
      refine s_cSP (np := 2) (rest := []) E (c_X11_outside l x3 48 rfl) kyX11_outside u2_219 u2_220 (by decide) rfl hl.1 rfl (Nat.le_of_ble_eq_true rfl) ⟨Nat.zero_le _, Nat.zero_le _⟩ dX11_lost_23 ?_
      refine lv_if_ne (tgt := 37) hx hb dX11_lost_26 (by decide) (fun c3 => ?_) (fun c3 => ?_)
      · have hf := ite_f c3 hf
        refine lv_ldc2 (v := (-4611686018427387904)) hx hb hown (hu _ u4_45) dX11_lost_37 ?_
        cases hf
        exact s_lret hx hb hr hI.2.2 hI.1 hlocks dX11_lost_40
      · have hf := ite_t c3 hf
        refine lv_aload_n hx hb dX11_lost_29 rfl (lv_at hl 0 rfl) ?_
        refine lv_iload_n hx hb dX11_lost_30 rfl (lv_at hl 1 rfl) ?_
        obtain ⟨v4, h5, hf⟩ := bndO_i hf
        refine s_afI hI (s_runV (rest := []) (As := [.int x1]) (np := 1) E hK hI (s_B hcl hBs hI) hcl.2 (mE hE.1 eC_100) rfl (c_X11_isMissing l D K sh ad cy X B hcl S hE G L O x1 h5) kyX11_isMissing u3_179 u3_181 up_15 (by decide) rfl hl.1 rfl (Nat.le_of_ble_eq_true rfl) ⟨Nat.zero_le _, Nat.zero_le _⟩ dX11_lost_31) (fun H locs hI => ?_)
        refine lv_if_eq (tgt := 41) hx hb dX11_lost_34 (by decide) (fun c6 => ?_) (fun c6 => ?_)
        · have hf := ite_t c6 hf
          refine lv_aload_n hx hb dX11_lost_41 rfl (lv_at hl 0 rfl) ?_
          refine lv_iload_n hx hb dX11_lost_42 rfl (lv_at hl 1 rfl) ?_
          obtain ⟨G7, L8, O9, h10, hf⟩ := bndP3_i hf
          refine s_afV hI (s_runV (rest := []) (As := [.int x1]) (np := 1) E hK hI (s_B hcl hBs hI) hcl.2 (mE hE.1 eC_100) rfl (c_X11_prepare l D K sh ad cy X B hcl S hE G L O x1 h10) kyX11_prepare u3_194 u3_196 up_17 (by decide) rfl hl.1 rfl (Nat.le_of_ble_eq_true rfl) ⟨Nat.zero_le _, Nat.zero_le _⟩ dX11_lost_43) (fun H locs hI => ?_)
          refine lv_aload_n hx hb dX11_lost_46 rfl (lv_at hl 0 rfl) ?_
          refine s_get (v := .ref (ad 128)) hx hb hu inU11 hown hK hI (mE hE.1 eC_100) rfl 9 (by decide) u2_184 (fun _ h => h) rfl rfl dX11_lost_47 ?_
          obtain ⟨G11, h12, hf⟩ := bndO_i hf
          refine s_afV hI (s_runV (rest := []) (As := []) (np := 0) E hK hI (s_B hcl hBs hI) hcl.2 (mE hE.1 eC_128) rfl (c_X1_weigh l D K sh ad cy X B hcl S hE G7 L8 O9  h12) kyX1_weigh u4_46 u4_47 u4_48 (by decide) rfl hl.1 rfl (Nat.le_of_ble_eq_true rfl) ⟨Nat.zero_le _, Nat.zero_le _⟩ dX11_lost_50) (fun H locs hI => ?_)
          refine lv_aload_n hx hb dX11_lost_53 rfl (lv_at hl 0 rfl) ?_
          refine s_get (v := .ref (ad 128)) hx hb hu inU11 hown hK hI (mE hE.1 eC_100) rfl 9 (by decide) u2_184 (fun _ h => h) rfl rfl dX11_lost_54 ?_
          obtain ⟨G13, v14, h15, hf⟩ := bndP_i hf
          refine s_afL hI (s_runV (rest := []) (As := []) (np := 0) E hK hI (s_B hcl hBs hI) hcl.2 (mE hE.1 eC_128) rfl (c_X1_badOfAll l D K sh ad cy X B hcl S hE G11 L8 O9  h15) kyX1_badOfAll u4_52 u4_53 u4_54 (by decide) rfl hl.1 rfl (Nat.le_of_ble_eq_true rfl) ⟨Nat.zero_le _, Nat.zero_le _⟩ dX11_lost_57) (fun H locs hI => ?_)
          refine lv_lstore (lv' := [(4, .long v14), (0, .ref (ad 100)), (1, .int x1), (2, .int x2), (3, .int x3)]) hx hb dX11_lost_60 hl (by decide) rfl (fun ls hl => ?_)
          refine lv_aload_n hx hb dX11_lost_62 rfl (lv_at hl 1 rfl) ?_
          refine s_get (v := .ref (ad 128)) hx hb hu inU11 hown hK hI (mE hE.1 eC_100) rfl 9 (by decide) u2_184 (fun _ h => h) rfl rfl dX11_lost_63 ?_
          refine lv_iload_n hx hb dX11_lost_66 rfl (lv_at hl 3 rfl) ?_
          refine lv_iload_n hx hb dX11_lost_67 rfl (lv_at hl 4 rfl) ?_
          obtain ⟨G16, h17, hf⟩ := bndO_i hf
          refine s_afV hI (s_runV (rest := []) (As := [.int x2, .int x3]) (np := 2) E hK hI (s_B hcl hBs hI) hcl.2 (mE hE.1 eC_128) rfl (c_X1_lose l D K sh ad cy X B hcl S hE G13 L8 O9 x2 x3 h17) kyX1_lose u4_93 u4_94 u4_95 (by decide) rfl hl.1 rfl (Nat.le_of_ble_eq_true rfl) ⟨Nat.zero_le _, Nat.zero_le _⟩ dX11_lost_68) (fun H locs hI => ?_)
          refine lv_aload_n hx hb dX11_lost_71 rfl (lv_at hl 1 rfl) ?_
          refine s_get (v := .ref (ad 128)) hx hb hu inU11 hown hK hI (mE hE.1 eC_100) rfl 9 (by decide) u2_184 (fun _ h => h) rfl rfl dX11_lost_72 ?_
          obtain ⟨G18, v19, h20, hf⟩ := bndP_i hf
          refine s_afL hI (s_runV (rest := []) (As := []) (np := 0) E hK hI (s_B hcl hBs hI) hcl.2 (mE hE.1 eC_128) rfl (c_X1_badOfAll l D K sh ad cy X B hcl S hE G16 L8 O9  h20) kyX1_badOfAll u4_52 u4_53 u4_54 (by decide) rfl hl.1 rfl (Nat.le_of_ble_eq_true rfl) ⟨Nat.zero_le _, Nat.zero_le _⟩ dX11_lost_75) (fun H locs hI => ?_)
          refine lv_lload hx hb dX11_lost_78 (lv_at hl 0 rfl) ?_
          refine lv_lsub hx hb dX11_lost_80 ?_
          cases hf
          exact s_lret hx hb hr hI.2.2 hI.1 hlocks dX11_lost_81
        · have hf := ite_f c6 hf
          refine lv_ldc2 (v := (-4611686018427387904)) hx hb hown (hu _ u4_45) dX11_lost_37 ?_
          cases hf
          exact s_lret hx hb hr hI.2.2 hI.1 hlocks dX11_lost_40
noncomputable def q_X11_who_69 (S : Nat → Nat) (x1 : Int32) (k54 : (Mem × MemL × MemO × Int64 × Int32 × Int32) → Option (Mem × MemL × MemO × Int32)) (rec : (Mem × MemL × MemO × Int64 × Int32 × Int32 × Int32) → Option (Mem × MemL × MemO × Int32)) : (Mem × MemL × MemO × Int64 × Int32 × Int32 × Int32) → Option (Mem × MemL × MemO × Int32) := fun (G, L, O, w2, x4, x5, x6) => (if (G 100 4) ≤ x6 then bnd (x5 + 1) (fun x5_18 => k54 (G, L, O, w2, x4, x5_18)) else (if (lg_cmp w2 0) = 0 then bnd (x6 + 1) (fun x6_20 => rec (G, L, O, w2, x4, x5, x6_20)) else bndO (f_X1_breathesBehind L x6 x5) (fun v21 => (if v21 = 0 then bnd (x6 + 1) (fun x6_37 => rec (G, L, O, w2, x4, x5, x6_37)) else chk (inB x6 10) (bnd (L 133 x6.toNatClampNeg) (fun w7_25 => chk (inB x6 10) (bnd (up2 L 133 x6.toNatClampNeg (w7_25 ||| ((1 : Int64) <<< (x5.toInt64 &&& 63)))) (fun L27 => bndP (f_X1_badOfAll G L27 O S) (fun G28 v29 => chk (inB x6 10) (bnd (up2 L27 133 x6.toNatClampNeg w7_25) (fun L32 => (if 0 ≤ (lg_cmp v29 w2) then bnd (x6 + 1) (fun x6_34 => rec (G28, L32, O, w2, x4, x5, x6_34)) else bnd ((100 * x6) + x5) (fun x4_35 => bnd (x6 + 1) (fun x6_36 => rec (G28, L32, O, v29, x4_35, x5, x6_36)))))))))))))))
noncomputable def q_X11_who_54 (S : Nat → Nat) (x1 : Int32)  (rec : (Mem × MemL × MemO × Int64 × Int32 × Int32) → Option (Mem × MemL × MemO × Int32)) : (Mem × MemL × MemO × Int64 × Int32 × Int32) → Option (Mem × MemL × MemO × Int32) := fun (G, L, O, w2, x4, x5) => (if (G 101 5) ≤ x5 then some (G, L, O, x4) else iter (q_X11_who_69 S x1 rec) fuel (G, L, O, w2, x4, x5, 0))
noncomputable def f_X11_who (G : Mem) (L : MemL) (O : MemO) (S : Nat → Nat) (x1 : Int32) : Option (Mem × MemL × MemO × Int32) := (if (f_X11_outside x1 4) = 0 then chk (inB x1 4) (bndO (O 118 x1.toNatClampNeg) (fun e3 => chk (shE e3) ((if (f_X6_isMissing G e3) = 0 then bndP3 (f_X11_prepare G L O S (2 + x1)) (fun G7 L8 O9 => bndO (f_X1_weigh G7 O9 S) (fun G11 => bndP (f_X1_badOfAll G11 L8 O9 S) (fun G13 v14 => iter (q_X11_who_54 S x1) fuel (G13, L8, O9, v14, (-1), 0)))) else some (G, L, O, (-11)))))) else some (G, L, O, (-2)))
theorem kyX11_who : Ky yX11_who cX11_who 11 (some FieldType.int) 1 := ⟨u4_100, u1_1, by decide, by decide, by decide, by decide +kernel⟩
set_option maxHeartbeats 4000000 in
set_option maxRecDepth 100000 in
theorem c_X11_who (l : Launch) (D : va_G) (K : List Nat) (sh : Nat → Ent) (ad : Nat → Nat) (cy : Nat → ClassId) (X : va_W) (B : State → Prop) (hcl : Bcl (AS K ad X) B) (S : Nat → Nat) (hE : HC S K sh) (G : Mem) (L : MemL) (O : MemO) (x1 : Int32) {Gz : Mem} {Lz : MemL} {Oz : MemO} {vz : Int32} (hf : f_X11_who G L O S x1 = some (Gz, Lz, Oz, vz)) : Met l yX11_who (wsU yX11_who cX11_who 11 (some FieldType.int)) (rmX 8 0 0) (va_Pc [.ref (ad 100), .int x1] (PS D K sh ad cy X B G L O)) (QI (AS K ad X) (PH D K sh ad cy X Gz Lz Oz) vz) 0 0 (AS K ad X) := by
  refine s_met (by decide) (Nat.le_of_ble_eq_true rfl) ?_
  intro p e s m args below meth c ls H locs E hK hBs hnm hI hl
  have hl : lv_has ls 11 [(0, .ref (ad 100)), (1, .int x1)] := hl
  have E : Cx p s m args meth c RX11 cX11_who 11 (some FieldType.int) := E
  obtain ⟨hx, hb, hr, hml, hown, hu, hlocks⟩ := id E
  have B69 : ∀ (k54 : (Mem × MemL × MemO × Int64 × Int32 × Int32) → Option (Mem × MemL × MemO × Int32)) (hk54 : ∀ (G : Mem) (L : MemL) (O : MemO) (w2 : Int64) (x4 : Int32) (x5 : Int32) (H : Heap) (locs : List Loc) (ls : Array Slot), lv_has ls 11 [(0, .ref (ad 100)), (2, .long w2), (4, .int x4), (5, .int x5)] → IS D K sh ad cy X (AS K ad X) s.heap H locs G L O → k54 (G, L, O, w2, x4, x5) = some (Gz, Lz, Oz, vz) → W p l e (rmX 8 0 0) s m args below meth c H locs 0 0 (MQ below (QI (AS K ad X) (PH D K sh ad cy X Gz Lz Oz) vz) args s 0 0 (AS K ad X)) (F0 m 54 ls [])) (n : Nat) (G : Mem) (L : MemL) (O : MemO) (w2 : Int64) (x4 : Int32) (x5 : Int32) (x6 : Int32) (H : Heap) (locs : List Loc) (ls : Array Slot), lv_has ls 11 [(0, .ref (ad 100)), (2, .long w2), (4, .int x4), (5, .int x5), (6, .int x6)] → IS D K sh ad cy X (AS K ad X) s.heap H locs G L O → iter (q_X11_who_69 S x1 k54) n (G, L, O, w2, x4, x5, x6) = some (Gz, Lz, Oz, vz) → W p l e (rmX 8 0 0) s m args below meth c H locs 0 0 (MQ below (QI (AS K ad X) (PH D K sh ad cy X Gz Lz Oz) vz) args s 0 0 (AS K ad X)) (F0 m 69 ls []) := by
    intro k54 hk54 n
    induction n with
    | zero => intro G L O w2 x4 x5 x6 H locs ls hl hI hf; exact iter_0 hf
    | succ n ih =>
      intro G L O w2 x4 x5 x6 H locs ls hl hI hf
      have hf : q_X11_who_69 S x1 k54 (iter (q_X11_who_69 S x1 k54) n) (G, L, O, w2, x4, x5, x6) = some (Gz, Lz, Oz, vz) := hf
      rw [q_X11_who_69] at hf
      refine lv_iload hx hb dX11_who_69 (lv_at hl 4 rfl) ?_
      refine lv_aload_n hx hb dX11_who_71 rfl (lv_at hl 0 rfl) ?_
      refine s_get (v := .int (G 100 4)) hx hb hu inU11 hown hK hI (mE hE.1 eC_100) rfl 4 (by decide) u2_179 (fun _ h => h) rfl rfl dX11_who_72 ?_
      refine lv_icmp_ge (tgt := 177) hx hb dX11_who_75 (by decide) (fun c17 => ?_) (fun c17 => ?_)
      · have hf := ite_t c17 hf
        obtain ⟨x5_18, ex5_18, hf⟩ := bnd_i hf
        refine lv_iinc (v := x5_18) (lv' := [(5, .int x5_18), (0, .ref (ad 100)), (2, .long w2), (4, .int x4), (6, .int x6)]) hx hb dX11_who_177 hl (k := 3) rfl (by rw [ex5_18]; rfl) (by decide) rfl (fun ls hl => ?_)
        refine lv_goto (tgt := 54) hx hb dX11_who_180 (by decide) ?_
        exact hk54 G L O w2 x4 x5_18 H locs ls (lv_sub hl [1, 2, 3, 0] rfl) hI hf
      · have hf := ite_f c17 hf
        refine lv_lload_n hx hb dX11_who_78 rfl (lv_at hl 1 rfl) ?_
        refine lv_lconst (v := 0) hx hb dX11_who_79 (by decide) ?_
        refine W.lcmp hx hb dX11_who_80 ?_
        refine lv_if_eq (tgt := 171) hx hb dX11_who_81 (by decide) (fun c19 => ?_) (fun c19 => ?_)
        · have hf := ite_t c19 hf
          obtain ⟨x6_20, ex6_20, hf⟩ := bnd_i hf
          refine lv_iinc (v := x6_20) (lv' := [(6, .int x6_20), (0, .ref (ad 100)), (2, .long w2), (4, .int x4), (5, .int x5)]) hx hb dX11_who_171 hl (k := 4) rfl (by rw [ex6_20]; rfl) (by decide) rfl (fun ls hl => ?_)
          refine lv_goto (tgt := 69) hx hb dX11_who_174 (by decide) ?_
          exact ih G L O w2 x4 x5 x6_20 H locs ls (lv_sub hl [1, 2, 3, 4, 0] rfl) hI hf
        · have hf := ite_f c19 hf
          refine lv_aload_n hx hb dX11_who_84 rfl (lv_at hl 0 rfl) ?_
          refine s_get (v := .ref (ad 128)) hx hb hu inU11 hown hK hI (mE hE.1 eC_100) rfl 9 (by decide) u2_184 (fun _ h => h) rfl rfl dX11_who_85 ?_
          refine lv_iload hx hb dX11_who_88 (lv_at hl 4 rfl) ?_
          refine lv_iload hx hb dX11_who_90 (lv_at hl 3 rfl) ?_
          obtain ⟨v21, h22, hf⟩ := bndO_i hf
          refine s_afI hI (s_runV (rest := []) (As := [.int x6, .int x5]) (np := 2) E hK hI (s_B hcl hBs hI) hcl.2 (mE hE.1 eC_128) rfl (c_X1_breathesBehind l D K sh ad cy X B hcl S hE G L O x6 x5 h22) kyX1_breathesBehind u4_101 u4_102 u4_103 (by decide) rfl hl.1 rfl (Nat.le_of_ble_eq_true rfl) ⟨Nat.zero_le _, Nat.zero_le _⟩ dX11_who_92) (fun H locs hI => ?_)
          refine lv_if_ne (tgt := 101) hx hb dX11_who_95 (by decide) (fun c23 => ?_) (fun c23 => ?_)
          · have hf := ite_f c23 hf
            refine lv_aload_n hx hb dX11_who_101 rfl (lv_at hl 0 rfl) ?_
            refine s_get (v := .ref (ad 128)) hx hb hu inU11 hown hK hI (mE hE.1 eC_100) rfl 9 (by decide) u2_184 (fun _ h => h) rfl rfl dX11_who_102 ?_
            refine s_getN (host := RX11) (v := .ref (ad 133)) hx hb hu inU1 hown hK hI (mE hE.1 eC_128) rfl 6 (by decide) (by decide) (fun _ h => h) rfl rfl dX11_who_105 ?_
            refine lv_iload hx hb dX11_who_108 (lv_at hl 4 rfl) ?_
            obtain ⟨h24, hf⟩ := chk_i hf
            refine s_lld hx hb hK hI (mE hE.1 eC_133) (inB_i h24) dX11_who_110 ?_
            obtain ⟨w7_25, ew7_25, hf⟩ := bnd_i hf
            refine s_nmL ew7_25 ?_
            refine lv_lstore (lv' := [(7, .long w7_25), (0, .ref (ad 100)), (2, .long w2), (4, .int x4), (5, .int x5), (6, .int x6)]) hx hb dX11_who_111 hl (by decide) rfl (fun ls hl => ?_)
            refine lv_aload_n hx hb dX11_who_113 rfl (lv_at hl 1 rfl) ?_
            refine s_get (v := .ref (ad 128)) hx hb hu inU11 hown hK hI (mE hE.1 eC_100) rfl 9 (by decide) u2_184 (fun _ h => h) rfl rfl dX11_who_114 ?_
            refine s_getN (host := RX11) (v := .ref (ad 133)) hx hb hu inU1 hown hK hI (mE hE.1 eC_128) rfl 6 (by decide) (by decide) (fun _ h => h) rfl rfl dX11_who_117 ?_
            refine lv_iload hx hb dX11_who_120 (lv_at hl 5 rfl) ?_
            refine lv_lload hx hb dX11_who_122 (lv_at hl 0 rfl) ?_
            refine lv_lconst (v := 1) hx hb dX11_who_124 (by decide) ?_
            refine lv_iload hx hb dX11_who_125 (lv_at hl 4 rfl) ?_
            refine lv_lshl (v := ((1 : Int64) <<< (x5.toInt64 &&& 63))) hx hb dX11_who_127 rfl ?_
            refine lv_lor hx hb dX11_who_128 ?_
            obtain ⟨h26, hf⟩ := chk_i hf
            obtain ⟨L27, eL27, hf⟩ := bnd_i hf
            refine s_lst hx hb hK hI (mE hE.1 eC_133) (inB_i h26) eL27 dX11_who_129 (fun H locs hI => ?_)
            refine lv_aload_n hx hb dX11_who_130 rfl (lv_at hl 1 rfl) ?_
            refine s_get (v := .ref (ad 128)) hx hb hu inU11 hown hK hI (mE hE.1 eC_100) rfl 9 (by decide) u2_184 (fun _ h => h) rfl rfl dX11_who_131 ?_
            obtain ⟨G28, v29, h30, hf⟩ := bndP_i hf
            refine s_afL hI (s_runV (rest := []) (As := []) (np := 0) E hK hI (s_B hcl hBs hI) hcl.2 (mE hE.1 eC_128) rfl (c_X1_badOfAll l D K sh ad cy X B hcl S hE G L27 O  h30) kyX1_badOfAll u4_52 u4_53 u4_54 (by decide) rfl hl.1 rfl (Nat.le_of_ble_eq_true rfl) ⟨Nat.zero_le _, Nat.zero_le _⟩ dX11_who_134) (fun H locs hI => ?_)
            refine lv_lstore (lv' := [(9, .long v29), (7, .long w7_25), (0, .ref (ad 100)), (2, .long w2), (4, .int x4), (5, .int x5), (6, .int x6)]) hx hb dX11_who_137 hl (by decide) rfl (fun ls hl => ?_)
            refine lv_aload_n hx hb dX11_who_139 rfl (lv_at hl 2 rfl) ?_
            refine s_get (v := .ref (ad 128)) hx hb hu inU11 hown hK hI (mE hE.1 eC_100) rfl 9 (by decide) u2_184 (fun _ h => h) rfl rfl dX11_who_140 ?_
            refine s_getN (host := RX11) (v := .ref (ad 133)) hx hb hu inU1 hown hK hI (mE hE.1 eC_128) rfl 6 (by decide) (by decide) (fun _ h => h) rfl rfl dX11_who_143 ?_
            refine lv_iload hx hb dX11_who_146 (lv_at hl 6 rfl) ?_
            refine lv_lload hx hb dX11_who_148 (lv_at hl 1 rfl) ?_
            obtain ⟨h31, hf⟩ := chk_i hf
            obtain ⟨L32, eL32, hf⟩ := bnd_i hf
            refine s_lst hx hb hK hI (mE hE.1 eC_133) (inB_i h31) eL32 dX11_who_150 (fun H locs hI => ?_)
            refine lv_lload hx hb dX11_who_151 (lv_at hl 0 rfl) ?_
            refine lv_lload_n hx hb dX11_who_153 rfl (lv_at hl 3 rfl) ?_
            refine W.lcmp hx hb dX11_who_154 ?_
            refine lv_if_ge (tgt := 171) hx hb dX11_who_155 (by decide) (fun c33 => ?_) (fun c33 => ?_)
            · have hf := ite_t c33 hf
              obtain ⟨x6_34, ex6_34, hf⟩ := bnd_i hf
              refine lv_iinc (v := x6_34) (lv' := [(6, .int x6_34), (9, .long v29), (7, .long w7_25), (0, .ref (ad 100)), (2, .long w2), (4, .int x4), (5, .int x5)]) hx hb dX11_who_171 hl (k := 6) rfl (by rw [ex6_34]; rfl) (by decide) rfl (fun ls hl => ?_)
              refine lv_goto (tgt := 69) hx hb dX11_who_174 (by decide) ?_
              exact ih G28 L32 O w2 x4 x5 x6_34 H locs ls (lv_sub hl [3, 4, 5, 6, 0] rfl) hI hf
            · have hf := ite_f c33 hf
              refine lv_lload hx hb dX11_who_158 (lv_at hl 0 rfl) ?_
              refine lv_lstore_n (lv' := [(2, .long v29), (9, .long v29), (7, .long w7_25), (0, .ref (ad 100)), (4, .int x4), (5, .int x5), (6, .int x6)]) hx hb dX11_who_160 rfl hl (by decide) rfl (fun ls hl => ?_)
              refine lv_bipush (v := 100) hx hb dX11_who_161 (by decide) ?_
              refine lv_iload hx hb dX11_who_163 (lv_at hl 6 rfl) ?_
              refine lv_imul hx hb dX11_who_165 ?_
              refine lv_iload hx hb dX11_who_166 (lv_at hl 5 rfl) ?_
              refine lv_iadd hx hb dX11_who_168 ?_
              obtain ⟨x4_35, ex4_35, hf⟩ := bnd_i hf
              refine s_nmI ex4_35 ?_
              refine lv_istore (lv' := [(4, .int x4_35), (2, .long v29), (9, .long v29), (7, .long w7_25), (0, .ref (ad 100)), (5, .int x5), (6, .int x6)]) hx hb dX11_who_169 hl (by decide) rfl (fun ls hl => ?_)
              obtain ⟨x6_36, ex6_36, hf⟩ := bnd_i hf
              refine lv_iinc (v := x6_36) (lv' := [(6, .int x6_36), (4, .int x4_35), (2, .long v29), (9, .long v29), (7, .long w7_25), (0, .ref (ad 100)), (5, .int x5)]) hx hb dX11_who_171 hl (k := 6) rfl (by rw [ex6_36]; rfl) (by decide) rfl (fun ls hl => ?_)
              refine lv_goto (tgt := 69) hx hb dX11_who_174 (by decide) ?_
              exact ih G28 L32 O v29 x4_35 x5 x6_36 H locs ls (lv_sub hl [5, 2, 1, 6, 0] rfl) hI hf
          · have hf := ite_t c23 hf
            refine lv_goto (tgt := 171) hx hb dX11_who_98 (by decide) ?_
            obtain ⟨x6_37, ex6_37, hf⟩ := bnd_i hf
            refine lv_iinc (v := x6_37) (lv' := [(6, .int x6_37), (0, .ref (ad 100)), (2, .long w2), (4, .int x4), (5, .int x5)]) hx hb dX11_who_171 hl (k := 4) rfl (by rw [ex6_37]; rfl) (by decide) rfl (fun ls hl => ?_)
            refine lv_goto (tgt := 69) hx hb dX11_who_174 (by decide) ?_
            exact ih G L O w2 x4 x5 x6_37 H locs ls (lv_sub hl [1, 2, 3, 4, 0] rfl) hI hf
  have B54 : ∀   (n : Nat) (G : Mem) (L : MemL) (O : MemO) (w2 : Int64) (x4 : Int32) (x5 : Int32) (H : Heap) (locs : List Loc) (ls : Array Slot), lv_has ls 11 [(0, .ref (ad 100)), (2, .long w2), (4, .int x4), (5, .int x5)] → IS D K sh ad cy X (AS K ad X) s.heap H locs G L O → iter (q_X11_who_54 S x1) n (G, L, O, w2, x4, x5) = some (Gz, Lz, Oz, vz) → W p l e (rmX 8 0 0) s m args below meth c H locs 0 0 (MQ below (QI (AS K ad X) (PH D K sh ad cy X Gz Lz Oz) vz) args s 0 0 (AS K ad X)) (F0 m 54 ls []) := by
    intro n
    induction n with
    | zero => intro G L O w2 x4 x5 H locs ls hl hI hf; exact iter_0 hf
    | succ n ih =>
      intro G L O w2 x4 x5 H locs ls hl hI hf
      have hf : q_X11_who_54 S x1 (iter (q_X11_who_54 S x1) n) (G, L, O, w2, x4, x5) = some (Gz, Lz, Oz, vz) := hf
      rw [q_X11_who_54] at hf
      refine lv_iload hx hb dX11_who_54 (lv_at hl 3 rfl) ?_
      refine lv_aload_n hx hb dX11_who_56 rfl (lv_at hl 0 rfl) ?_
      refine s_get (v := .ref (ad 101)) hx hb hu inU11 hown hK hI (mE hE.1 eC_100) rfl 0 (by decide) u2_175 (fun _ h => h) rfl rfl dX11_who_57 ?_
      refine s_get (v := .int (G 101 5)) hx hb hu inU4 hown hK hI (mE hE.1 eC_101) rfl 5 (by decide) u1_56 (fun _ h => h) rfl rfl dX11_who_60 ?_
      refine lv_icmp_ge (tgt := 183) hx hb dX11_who_63 (by decide) (fun c16 => ?_) (fun c16 => ?_)
      · have hf := ite_t c16 hf
        refine lv_iload hx hb dX11_who_183 (lv_at hl 2 rfl) ?_
        cases hf
        exact s_iret hx hb hr hI.2.2 hI.1 hlocks dX11_who_185
      · have hf := ite_f c16 hf
        refine lv_iconst (v := 0) hx hb dX11_who_66 (by decide) ?_
        refine lv_istore (lv' := [(6, .int 0), (0, .ref (ad 100)), (2, .long w2), (4, .int x4), (5, .int x5)]) hx hb dX11_who_67 hl (by decide) rfl (fun ls hl => ?_)
        exact B69 _ ih fuel G L O w2 x4 x5 0 H locs ls (lv_sub hl [1, 2, 3, 4, 0] rfl) hI hf
  rw [f_X11_who] at hf
  refine lv_iload_n hx hb dX11_who_0 rfl (lv_at hl 1 rfl) ?_
  refine lv_iconst (v := 4) hx hb dX11_who_1 (by decide) ?_
  refine s_cSP (np := 2) (rest := []) E (c_X11_outside l x1 4 rfl) kyX11_outside u2_219 u2_220 (by decide) rfl hl.1 rfl (Nat.le_of_ble_eq_true rfl) ⟨Nat.zero_le _, Nat.zero_le _⟩ dX11_who_2 ?_
  refine lv_if_eq (tgt := 11) hx hb dX11_who_5 (by decide) (fun c1 => ?_) (fun c1 => ?_)
  · have hf := ite_t c1 hf
    refine lv_aload_n hx hb dX11_who_11 rfl (lv_at hl 0 rfl) ?_
    refine s_get (v := .ref (ad 118)) hx hb hu inU11 hown hK hI (mE hE.1 eC_100) rfl 8 (by decide) u2_183 (fun _ h => h) rfl rfl dX11_who_12 ?_
    refine lv_iload_n hx hb dX11_who_15 rfl (lv_at hl 1 rfl) ?_
    obtain ⟨h2, hf⟩ := chk_i hf
    obtain ⟨e3, h4, hf⟩ := bndO_i hf
    obtain ⟨h5, hf⟩ := chk_i hf
    refine s_ald (t := 8) (t0 := 7) (by decide) rfl hx hb hK hI (mE hE.1 eC_118) (inB_i h2) dX11_who_16 ?_
    refine s_nmO h4 ?_
    refine s_afI hI (s_runV (rest := []) (As := []) (np := 0) E hK hI (s_B hcl hBs hI) hcl.2 (shS hE.1 h5) rfl (c_X6_isMissing l D K sh ad cy X B hcl S hE e3 h5 G L O  rfl) kyX6_isMissing u3_186 u3_187 u3_188 (by decide) rfl hl.1 rfl (Nat.le_of_ble_eq_true rfl) ⟨Nat.zero_le _, Nat.zero_le _⟩ dX11_who_17) (fun H locs hI => ?_)
    refine lv_if_eq (tgt := 26) hx hb dX11_who_20 (by decide) (fun c6 => ?_) (fun c6 => ?_)
    · have hf := ite_t c6 hf
      refine lv_aload_n hx hb dX11_who_26 rfl (lv_at hl 0 rfl) ?_
      refine lv_iconst (v := 2) hx hb dX11_who_27 (by decide) ?_
      refine lv_iload_n hx hb dX11_who_28 rfl (lv_at hl 1 rfl) ?_
      refine lv_iadd hx hb dX11_who_29 ?_
      obtain ⟨G7, L8, O9, h10, hf⟩ := bndP3_i hf
      refine s_afV hI (s_runV (rest := []) (As := [.int (2 + x1)]) (np := 1) E hK hI (s_B hcl hBs hI) hcl.2 (mE hE.1 eC_100) rfl (c_X11_prepare l D K sh ad cy X B hcl S hE G L O (2 + x1) h10) kyX11_prepare u3_194 u3_196 up_17 (by decide) rfl hl.1 rfl (Nat.le_of_ble_eq_true rfl) ⟨Nat.zero_le _, Nat.zero_le _⟩ dX11_who_30) (fun H locs hI => ?_)
      refine lv_aload_n hx hb dX11_who_33 rfl (lv_at hl 0 rfl) ?_
      refine s_get (v := .ref (ad 128)) hx hb hu inU11 hown hK hI (mE hE.1 eC_100) rfl 9 (by decide) u2_184 (fun _ h => h) rfl rfl dX11_who_34 ?_
      obtain ⟨G11, h12, hf⟩ := bndO_i hf
      refine s_afV hI (s_runV (rest := []) (As := []) (np := 0) E hK hI (s_B hcl hBs hI) hcl.2 (mE hE.1 eC_128) rfl (c_X1_weigh l D K sh ad cy X B hcl S hE G7 L8 O9  h12) kyX1_weigh u4_46 u4_47 u4_48 (by decide) rfl hl.1 rfl (Nat.le_of_ble_eq_true rfl) ⟨Nat.zero_le _, Nat.zero_le _⟩ dX11_who_37) (fun H locs hI => ?_)
      refine lv_aload_n hx hb dX11_who_40 rfl (lv_at hl 0 rfl) ?_
      refine s_get (v := .ref (ad 128)) hx hb hu inU11 hown hK hI (mE hE.1 eC_100) rfl 9 (by decide) u2_184 (fun _ h => h) rfl rfl dX11_who_41 ?_
      obtain ⟨G13, v14, h15, hf⟩ := bndP_i hf
      refine s_afL hI (s_runV (rest := []) (As := []) (np := 0) E hK hI (s_B hcl hBs hI) hcl.2 (mE hE.1 eC_128) rfl (c_X1_badOfAll l D K sh ad cy X B hcl S hE G11 L8 O9  h15) kyX1_badOfAll u4_52 u4_53 u4_54 (by decide) rfl hl.1 rfl (Nat.le_of_ble_eq_true rfl) ⟨Nat.zero_le _, Nat.zero_le _⟩ dX11_who_44) (fun H locs hI => ?_)
      refine lv_lstore_n (lv' := [(2, .long v14), (0, .ref (ad 100)), (1, .int x1)]) hx hb dX11_who_47 rfl hl (by decide) rfl (fun ls hl => ?_)
      refine lv_iconst (v := (-1)) hx hb dX11_who_48 (by decide) ?_
      refine lv_istore (lv' := [(4, .int (-1)), (2, .long v14), (0, .ref (ad 100)), (1, .int x1)]) hx hb dX11_who_49 hl (by decide) rfl (fun ls hl => ?_)
      refine lv_iconst (v := 0) hx hb dX11_who_51 (by decide) ?_
      refine lv_istore (lv' := [(5, .int 0), (4, .int (-1)), (2, .long v14), (0, .ref (ad 100)), (1, .int x1)]) hx hb dX11_who_52 hl (by decide) rfl (fun ls hl => ?_)
      exact B54   fuel G13 L8 O9 v14 (-1) 0 H locs ls (lv_sub hl [3, 2, 1, 0] rfl) hI hf
    · have hf := ite_f c6 hf
      refine lv_bipush (v := (-11)) hx hb dX11_who_23 (by decide) ?_
      cases hf
      exact s_iret hx hb hr hI.2.2 hI.1 hlocks dX11_who_25
  · have hf := ite_f c1 hf
    refine lv_bipush (v := (-2)) hx hb dX11_who_8 (by decide) ?_
    cases hf
    exact s_iret hx hb hr hI.2.2 hI.1 hlocks dX11_who_10
noncomputable def f_X11_image (G : Mem)  : Option (Mem × Int32) := bndO (f_X4_takeFrom G 107 101 (G 100 4)) (fun G1 => bnd (up2 G1 100 2 (G1 100 4)) (fun G3 => some (G3, (G3 100 4))))
theorem kyX11_image : Ky yX11_image cX11_image 1 (some FieldType.int) 0 := ⟨u4_108, u1_1, by decide, by decide, by decide, by decide +kernel⟩
set_option maxHeartbeats 4000000 in
set_option maxRecDepth 100000 in
theorem c_X11_image (l : Launch) (D : va_G) (K : List Nat) (sh : Nat → Ent) (ad : Nat → Nat) (cy : Nat → ClassId) (X : va_W) (B : State → Prop) (hcl : Bcl (AS K ad X) B) (S : Nat → Nat) (hE : HC S K sh) (G : Mem) (L : MemL) (O : MemO)  {Gz : Mem} {vz : Int32} (hf : f_X11_image G = some (Gz, vz)) : Met l yX11_image (wsU yX11_image cX11_image 1 (some FieldType.int)) (rmX 2 0 0) (va_Pc [.ref (ad 100)] (PS D K sh ad cy X B G L O)) (QI (AS K ad X) (PH D K sh ad cy X Gz L O) vz) 0 0 (AS K ad X) := by
  refine s_met (by decide) (Nat.le_of_ble_eq_true rfl) ?_
  intro p e s m args below meth c ls H locs E hK hBs hnm hI hl
  have hl : lv_has ls 1 [(0, .ref (ad 100))] := hl
  have E : Cx p s m args meth c RX11 cX11_image 1 (some FieldType.int) := E
  obtain ⟨hx, hb, hr, hml, hown, hu, hlocks⟩ := id E
  rw [f_X11_image] at hf
  refine lv_aload_n hx hb dX11_image_0 rfl (lv_at hl 0 rfl) ?_
  refine s_get (v := .ref (ad 107)) hx hb hu inU11 hown hK hI (mE hE.1 eC_100) rfl 1 (by decide) u2_176 (fun _ h => h) rfl rfl dX11_image_1 ?_
  refine lv_aload_n hx hb dX11_image_4 rfl (lv_at hl 0 rfl) ?_
  refine s_get (v := .ref (ad 101)) hx hb hu inU11 hown hK hI (mE hE.1 eC_100) rfl 0 (by decide) u2_175 (fun _ h => h) rfl rfl dX11_image_5 ?_
  refine lv_aload_n hx hb dX11_image_8 rfl (lv_at hl 0 rfl) ?_
  refine s_get (v := .int (G 100 4)) hx hb hu inU11 hown hK hI (mE hE.1 eC_100) rfl 4 (by decide) u2_179 (fun _ h => h) rfl rfl dX11_image_9 ?_
  obtain ⟨G1, h2, hf⟩ := bndO_i hf
  refine s_afV hI (s_runV (rest := []) (As := [.ref (ad 101), .int (G 100 4)]) (np := 2) E hK hI (s_B hcl hBs hI) hcl.2 (mE hE.1 eC_107) rfl (c_X4_takeFrom l D K sh ad cy X B hcl S hE 107 (by decide) 101 (by decide) G L O (G 100 4) h2) kyX4_takeFrom u4_109 u4_110 u4_111 (by decide) rfl hl.1 rfl (Nat.le_of_ble_eq_true rfl) ⟨Nat.zero_le _, Nat.zero_le _⟩ dX11_image_12) (fun H locs hI => ?_)
  refine lv_aload_n hx hb dX11_image_15 rfl (lv_at hl 0 rfl) ?_
  refine lv_aload_n hx hb dX11_image_16 rfl (lv_at hl 0 rfl) ?_
  refine s_get (v := .int (G1 100 4)) hx hb hu inU11 hown hK hI (mE hE.1 eC_100) rfl 4 (by decide) u2_179 (fun _ h => h) rfl rfl dX11_image_17 ?_
  obtain ⟨G3, eG3, hf⟩ := bnd_i hf
  refine s_put (ty := .int) hx hb hu inU11 tyX11_ok nmX11 hown hK hI (mE hE.1 eC_100) rfl 2 (by decide) u2_177 (fun _ h => h) rfl rfl (tyX11_ok 2 (by decide)) rfl rfl eG3 dX11_image_20 (fun H locs hI => ?_)
  refine lv_aload_n hx hb dX11_image_23 rfl (lv_at hl 0 rfl) ?_
  refine s_get (v := .int (G3 100 4)) hx hb hu inU11 hown hK hI (mE hE.1 eC_100) rfl 4 (by decide) u2_179 (fun _ h => h) rfl rfl dX11_image_24 ?_
  cases hf
  exact s_iret hx hb hr hI.2.2 hI.1 hlocks dX11_image_27
noncomputable def f_X11_back (G : Mem)  : Option (Mem × Int32) := (if (G 100 2) = (-1) then some (G, (-3)) else bndO (f_X4_takeFrom G 101 107 (G 100 2)) (fun G2 => some (G2, (G2 100 4))))
theorem kyX11_back : Ky yX11_back cX11_back 1 (some FieldType.int) 0 := ⟨u4_117, u1_1, by decide, by decide, by decide, by decide +kernel⟩
set_option maxHeartbeats 4000000 in
set_option maxRecDepth 100000 in
theorem c_X11_back (l : Launch) (D : va_G) (K : List Nat) (sh : Nat → Ent) (ad : Nat → Nat) (cy : Nat → ClassId) (X : va_W) (B : State → Prop) (hcl : Bcl (AS K ad X) B) (S : Nat → Nat) (hE : HC S K sh) (G : Mem) (L : MemL) (O : MemO)  {Gz : Mem} {vz : Int32} (hf : f_X11_back G = some (Gz, vz)) : Met l yX11_back (wsU yX11_back cX11_back 1 (some FieldType.int)) (rmX 2 0 0) (va_Pc [.ref (ad 100)] (PS D K sh ad cy X B G L O)) (QI (AS K ad X) (PH D K sh ad cy X Gz L O) vz) 0 0 (AS K ad X) := by
  refine s_met (by decide) (Nat.le_of_ble_eq_true rfl) ?_
  intro p e s m args below meth c ls H locs E hK hBs hnm hI hl
  have hl : lv_has ls 1 [(0, .ref (ad 100))] := hl
  have E : Cx p s m args meth c RX11 cX11_back 1 (some FieldType.int) := E
  obtain ⟨hx, hb, hr, hml, hown, hu, hlocks⟩ := id E
  rw [f_X11_back] at hf
  refine lv_aload_n hx hb dX11_back_0 rfl (lv_at hl 0 rfl) ?_
  refine s_get (v := .int (G 100 2)) hx hb hu inU11 hown hK hI (mE hE.1 eC_100) rfl 2 (by decide) u2_177 (fun _ h => h) rfl rfl dX11_back_1 ?_
  refine lv_iconst (v := (-1)) hx hb dX11_back_4 (by decide) ?_
  refine lv_icmp_ne (tgt := 11) hx hb dX11_back_5 (by decide) (fun c1 => ?_) (fun c1 => ?_)
  · have hf := ite_f c1 hf
    refine lv_aload_n hx hb dX11_back_11 rfl (lv_at hl 0 rfl) ?_
    refine s_get (v := .ref (ad 101)) hx hb hu inU11 hown hK hI (mE hE.1 eC_100) rfl 0 (by decide) u2_175 (fun _ h => h) rfl rfl dX11_back_12 ?_
    refine lv_aload_n hx hb dX11_back_15 rfl (lv_at hl 0 rfl) ?_
    refine s_get (v := .ref (ad 107)) hx hb hu inU11 hown hK hI (mE hE.1 eC_100) rfl 1 (by decide) u2_176 (fun _ h => h) rfl rfl dX11_back_16 ?_
    refine lv_aload_n hx hb dX11_back_19 rfl (lv_at hl 0 rfl) ?_
    refine s_get (v := .int (G 100 2)) hx hb hu inU11 hown hK hI (mE hE.1 eC_100) rfl 2 (by decide) u2_177 (fun _ h => h) rfl rfl dX11_back_20 ?_
    obtain ⟨G2, h3, hf⟩ := bndO_i hf
    refine s_afV hI (s_runV (rest := []) (As := [.ref (ad 107), .int (G 100 2)]) (np := 2) E hK hI (s_B hcl hBs hI) hcl.2 (mE hE.1 eC_101) rfl (c_X4_takeFrom l D K sh ad cy X B hcl S hE 101 (by decide) 107 (by decide) G L O (G 100 2) h3) kyX4_takeFrom u4_109 u4_110 u4_111 (by decide) rfl hl.1 rfl (Nat.le_of_ble_eq_true rfl) ⟨Nat.zero_le _, Nat.zero_le _⟩ dX11_back_23) (fun H locs hI => ?_)
    refine lv_aload_n hx hb dX11_back_26 rfl (lv_at hl 0 rfl) ?_
    refine s_get (v := .int (G2 100 4)) hx hb hu inU11 hown hK hI (mE hE.1 eC_100) rfl 4 (by decide) u2_179 (fun _ h => h) rfl rfl dX11_back_27 ?_
    cases hf
    exact s_iret hx hb hr hI.2.2 hI.1 hlocks dX11_back_30
  · have hf := ite_t c1 hf
    refine lv_bipush (v := (-3)) hx hb dX11_back_8 (by decide) ?_
    cases hf
    exact s_iret hx hb hr hI.2.2 hI.1 hlocks dX11_back_10
noncomputable def f_X11_count (G : Mem) (x1 : Int32) : Option (Int32) := (if x1 = 0 then some (G 100 4) else if x1 = 1 then some (G 101 5) else if x1 = 2 then bndO (f_X11_sumOf G 103 48 (G 101 5)) (fun v4 => some v4) else if x1 = 3 then bndO (f_X11_sumOf G 104 48 (G 101 5)) (fun v7 => some v7) else if x1 = 4 then some (G 100 7) else if x1 = 5 then some (G 114 2) else if x1 = 6 then some (G 101 7) else if x1 = 7 then bndO (f_X11_sumOf G 105 4 4) (fun v13 => some v13) else some (-2))
theorem kyX11_count : Ky yX11_count cX11_count 2 (some FieldType.int) 1 := ⟨u4_121, u1_1, by decide, by decide, by decide, by decide +kernel⟩
set_option maxHeartbeats 4000000 in
set_option maxRecDepth 100000 in
theorem c_X11_count (l : Launch) (D : va_G) (K : List Nat) (sh : Nat → Ent) (ad : Nat → Nat) (cy : Nat → ClassId) (X : va_W) (B : State → Prop) (hcl : Bcl (AS K ad X) B) (S : Nat → Nat) (hE : HC S K sh) (G : Mem) (L : MemL) (O : MemO) (x1 : Int32)  {vz : Int32} (hf : f_X11_count G x1 = some vz) : Met l yX11_count (wsU yX11_count cX11_count 2 (some FieldType.int)) (rmX 2 0 0) (va_Pc [.ref (ad 100), .int x1] (PS D K sh ad cy X B G L O)) (QI (AS K ad X) (PH D K sh ad cy X G L O) vz) 0 0 (AS K ad X) := by
  refine s_met (by decide) (Nat.le_of_ble_eq_true rfl) ?_
  intro p e s m args below meth c ls H locs E hK hBs hnm hI hl
  have hl : lv_has ls 2 [(0, .ref (ad 100)), (1, .int x1)] := hl
  have E : Cx p s m args meth c RX11 cX11_count 2 (some FieldType.int) := E
  obtain ⟨hx, hb, hr, hml, hown, hu, hlocks⟩ := id E
  rw [f_X11_count] at hf
  refine lv_iload_n hx hb dX11_count_0 rfl (lv_at hl 1 rfl) ?_
  by_cases c1 : x1 = 0
  · have hf := ite_t c1 hf
    refine s_tbl (tgt := 48) 0 E dX11_count_1 c1 (by decide) (by decide) rfl (by decide) ?_
    refine lv_aload_n hx hb dX11_count_48 rfl (lv_at hl 0 rfl) ?_
    refine s_get (v := .int (G 100 4)) hx hb hu inU11 hown hK hI (mE hE.1 eC_100) rfl 4 (by decide) u2_179 (fun _ h => h) rfl rfl dX11_count_49 ?_
    cases hf
    exact s_iret hx hb hr hI.2.2 hI.1 hlocks dX11_count_52
  · have hf := ite_f c1 hf
    by_cases c2 : x1 = 1
    · have hf := ite_t c2 hf
      refine s_tbl (tgt := 53) 1 E dX11_count_1 c2 (by decide) (by decide) rfl (by decide) ?_
      refine lv_aload_n hx hb dX11_count_53 rfl (lv_at hl 0 rfl) ?_
      refine s_get (v := .ref (ad 101)) hx hb hu inU11 hown hK hI (mE hE.1 eC_100) rfl 0 (by decide) u2_175 (fun _ h => h) rfl rfl dX11_count_54 ?_
      refine s_get (v := .int (G 101 5)) hx hb hu inU4 hown hK hI (mE hE.1 eC_101) rfl 5 (by decide) u1_56 (fun _ h => h) rfl rfl dX11_count_57 ?_
      cases hf
      exact s_iret hx hb hr hI.2.2 hI.1 hlocks dX11_count_60
    · have hf := ite_f c2 hf
      by_cases c3 : x1 = 2
      · have hf := ite_t c3 hf
        refine s_tbl (tgt := 61) 2 E dX11_count_1 c3 (by decide) (by decide) rfl (by decide) ?_
        refine lv_aload_n hx hb dX11_count_61 rfl (lv_at hl 0 rfl) ?_
        refine s_get (v := .ref (ad 101)) hx hb hu inU11 hown hK hI (mE hE.1 eC_100) rfl 0 (by decide) u2_175 (fun _ h => h) rfl rfl dX11_count_62 ?_
        refine s_get (v := .ref (ad 103)) hx hb hu inU4 hown hK hI (mE hE.1 eC_101) rfl 1 (by decide) u1_44 (fun _ h => h) rfl rfl dX11_count_65 ?_
        refine lv_aload_n hx hb dX11_count_68 rfl (lv_at hl 0 rfl) ?_
        refine s_get (v := .ref (ad 101)) hx hb hu inU11 hown hK hI (mE hE.1 eC_100) rfl 0 (by decide) u2_175 (fun _ h => h) rfl rfl dX11_count_69 ?_
        refine s_get (v := .int (G 101 5)) hx hb hu inU4 hown hK hI (mE hE.1 eC_101) rfl 5 (by decide) u1_56 (fun _ h => h) rfl rfl dX11_count_72 ?_
        obtain ⟨v4, h5, hf⟩ := bndO_i hf
        refine s_afI hI (s_runS (rest := []) (np := 2) E hK hI (s_B hcl hBs hI) hcl.2 (c_X11_sumOf l D K sh ad cy X B hcl S hE 103 48 (mE hE.1 eC_103) G L O (G 101 5) h5) kyX11_sumOf u4_122 u4_67 (by decide) rfl hl.1 rfl (Nat.le_of_ble_eq_true rfl) ⟨Nat.zero_le _, Nat.zero_le _⟩ dX11_count_75) (fun H locs hI => ?_)
        cases hf
        exact s_iret hx hb hr hI.2.2 hI.1 hlocks dX11_count_78
      · have hf := ite_f c3 hf
        by_cases c6 : x1 = 3
        · have hf := ite_t c6 hf
          refine s_tbl (tgt := 79) 3 E dX11_count_1 c6 (by decide) (by decide) rfl (by decide) ?_
          refine lv_aload_n hx hb dX11_count_79 rfl (lv_at hl 0 rfl) ?_
          refine s_get (v := .ref (ad 101)) hx hb hu inU11 hown hK hI (mE hE.1 eC_100) rfl 0 (by decide) u2_175 (fun _ h => h) rfl rfl dX11_count_80 ?_
          refine s_get (v := .ref (ad 104)) hx hb hu inU4 hown hK hI (mE hE.1 eC_101) rfl 2 (by decide) u1_47 (fun _ h => h) rfl rfl dX11_count_83 ?_
          refine lv_aload_n hx hb dX11_count_86 rfl (lv_at hl 0 rfl) ?_
          refine s_get (v := .ref (ad 101)) hx hb hu inU11 hown hK hI (mE hE.1 eC_100) rfl 0 (by decide) u2_175 (fun _ h => h) rfl rfl dX11_count_87 ?_
          refine s_get (v := .int (G 101 5)) hx hb hu inU4 hown hK hI (mE hE.1 eC_101) rfl 5 (by decide) u1_56 (fun _ h => h) rfl rfl dX11_count_90 ?_
          obtain ⟨v7, h8, hf⟩ := bndO_i hf
          refine s_afI hI (s_runS (rest := []) (np := 2) E hK hI (s_B hcl hBs hI) hcl.2 (c_X11_sumOf l D K sh ad cy X B hcl S hE 104 48 (mE hE.1 eC_104) G L O (G 101 5) h8) kyX11_sumOf u4_122 u4_67 (by decide) rfl hl.1 rfl (Nat.le_of_ble_eq_true rfl) ⟨Nat.zero_le _, Nat.zero_le _⟩ dX11_count_93) (fun H locs hI => ?_)
          cases hf
          exact s_iret hx hb hr hI.2.2 hI.1 hlocks dX11_count_96
        · have hf := ite_f c6 hf
          by_cases c9 : x1 = 4
          · have hf := ite_t c9 hf
            refine s_tbl (tgt := 97) 4 E dX11_count_1 c9 (by decide) (by decide) rfl (by decide) ?_
            refine lv_aload_n hx hb dX11_count_97 rfl (lv_at hl 0 rfl) ?_
            refine s_get (v := .int (G 100 7)) hx hb hu inU11 hown hK hI (mE hE.1 eC_100) rfl 7 (by decide) u2_182 (fun _ h => h) rfl rfl dX11_count_98 ?_
            cases hf
            exact s_iret hx hb hr hI.2.2 hI.1 hlocks dX11_count_101
          · have hf := ite_f c9 hf
            by_cases c10 : x1 = 5
            · have hf := ite_t c10 hf
              refine s_tbl (tgt := 102) 5 E dX11_count_1 c10 (by decide) (by decide) rfl (by decide) ?_
              refine lv_aload_n hx hb dX11_count_102 rfl (lv_at hl 0 rfl) ?_
              refine s_get (v := .ref (ad 114)) hx hb hu inU11 hown hK hI (mE hE.1 eC_100) rfl 5 (by decide) u2_180 (fun _ h => h) rfl rfl dX11_count_103 ?_
              refine s_getN (host := RX11) (v := .int (G 114 2)) hx hb hu inU5 hown hK hI (mE hE.1 eC_114) rfl 2 (by decide) (by decide) (fun _ h => h) rfl rfl dX11_count_106 ?_
              cases hf
              exact s_iret hx hb hr hI.2.2 hI.1 hlocks dX11_count_109
            · have hf := ite_f c10 hf
              by_cases c11 : x1 = 6
              · have hf := ite_t c11 hf
                refine s_tbl (tgt := 110) 6 E dX11_count_1 c11 (by decide) (by decide) rfl (by decide) ?_
                refine lv_aload_n hx hb dX11_count_110 rfl (lv_at hl 0 rfl) ?_
                refine s_get (v := .ref (ad 101)) hx hb hu inU11 hown hK hI (mE hE.1 eC_100) rfl 0 (by decide) u2_175 (fun _ h => h) rfl rfl dX11_count_111 ?_
                refine s_get (v := .int (G 101 7)) hx hb hu inU4 hown hK hI (mE hE.1 eC_101) rfl 7 (by decide) u1_62 (fun _ h => h) rfl rfl dX11_count_114 ?_
                cases hf
                exact s_iret hx hb hr hI.2.2 hI.1 hlocks dX11_count_117
              · have hf := ite_f c11 hf
                by_cases c12 : x1 = 7
                · have hf := ite_t c12 hf
                  refine s_tbl (tgt := 118) 7 E dX11_count_1 c12 (by decide) (by decide) rfl (by decide) ?_
                  refine lv_aload_n hx hb dX11_count_118 rfl (lv_at hl 0 rfl) ?_
                  refine s_get (v := .ref (ad 101)) hx hb hu inU11 hown hK hI (mE hE.1 eC_100) rfl 0 (by decide) u2_175 (fun _ h => h) rfl rfl dX11_count_119 ?_
                  refine s_get (v := .ref (ad 105)) hx hb hu inU4 hown hK hI (mE hE.1 eC_101) rfl 3 (by decide) u1_50 (fun _ h => h) rfl rfl dX11_count_122 ?_
                  refine lv_iconst (v := 4) hx hb dX11_count_125 (by decide) ?_
                  obtain ⟨v13, h14, hf⟩ := bndO_i hf
                  refine s_afI hI (s_runS (rest := []) (np := 2) E hK hI (s_B hcl hBs hI) hcl.2 (c_X11_sumOf l D K sh ad cy X B hcl S hE 105 4 (mE hE.1 eC_105) G L O 4 h14) kyX11_sumOf u4_122 u4_67 (by decide) rfl hl.1 rfl (Nat.le_of_ble_eq_true rfl) ⟨Nat.zero_le _, Nat.zero_le _⟩ dX11_count_126) (fun H locs hI => ?_)
                  cases hf
                  exact s_iret hx hb hr hI.2.2 hI.1 hlocks dX11_count_129
                · have hf := ite_f c12 hf
                  refine lv_tableOut (tgt := 130) hx hb dX11_count_1 (by have q0 := lv_neT c1 (show (0 : Int32).toInt = 0 from rfl); have q1 := lv_neT c2 (show (1 : Int32).toInt = 1 from rfl); have q2 := lv_neT c3 (show (2 : Int32).toInt = 2 from rfl); have q3 := lv_neT c6 (show (3 : Int32).toInt = 3 from rfl); have q4 := lv_neT c9 (show (4 : Int32).toInt = 4 from rfl); have q5 := lv_neT c10 (show (5 : Int32).toInt = 5 from rfl); have q6 := lv_neT c11 (show (6 : Int32).toInt = 6 from rfl); have q7 := lv_neT c12 (show (7 : Int32).toInt = 7 from rfl); omega) (by decide) ?_
                  refine lv_bipush (v := (-2)) hx hb dX11_count_130 (by decide) ?_
                  cases hf
                  exact s_iret hx hb hr hI.2.2 hI.1 hlocks dX11_count_132
noncomputable def f_X11_sheet (G : Mem) (O : MemO) (S : Nat → Nat) (x1 : Int32) (x2 : Int32) (x3 : Int32) : Option (Mem × Int32) := (if (f_X11_outside x1 4) = 0 then (if x2 < (-1) then some (G, (-2)) else (if x2 < 3 then (if x2 = (-1) then chk (inB x1 4) (bndO (O 118 x1.toNatClampNeg) (fun e14 => chk (shE e14) (bndO (f_X6_become G e14 (-1) 0) (fun G17 => some (G17, 1))))) else (if x3 ≤ 40 then (if 0 ≤ x3 then chk (inB x1 4) (bndO (O 118 x1.toNatClampNeg) (fun e8 => chk (shE e8) (bndO (f_X6_become G e8 x2 x3) (fun G11 => some (G11, 1))))) else some (G, (-14))) else some (G, (-2)))) else some (G, (-2)))) else some (G, (-2)))
theorem kyX11_sheet : Ky yX11_sheet cX11_sheet 4 (some FieldType.int) 3 := ⟨u4_126, u1_1, by decide, by decide, by decide, by decide +kernel⟩
set_option maxHeartbeats 4000000 in
set_option maxRecDepth 100000 in
theorem c_X11_sheet (l : Launch) (D : va_G) (K : List Nat) (sh : Nat → Ent) (ad : Nat → Nat) (cy : Nat → ClassId) (X : va_W) (B : State → Prop) (hcl : Bcl (AS K ad X) B) (S : Nat → Nat) (hE : HC S K sh) (G : Mem) (L : MemL) (O : MemO) (x1 : Int32) (x2 : Int32) (x3 : Int32) {Gz : Mem} {vz : Int32} (hf : f_X11_sheet G O S x1 x2 x3 = some (Gz, vz)) : Met l yX11_sheet (wsU yX11_sheet cX11_sheet 4 (some FieldType.int)) (rmX 3 0 0) (va_Pc [.ref (ad 100), .int x1, .int x2, .int x3] (PS D K sh ad cy X B G L O)) (QI (AS K ad X) (PH D K sh ad cy X Gz L O) vz) 0 0 (AS K ad X) := by
  refine s_met (by decide) (Nat.le_of_ble_eq_true rfl) ?_
  intro p e s m args below meth c ls H locs E hK hBs hnm hI hl
  have hl : lv_has ls 4 [(0, .ref (ad 100)), (1, .int x1), (2, .int x2), (3, .int x3)] := hl
  have E : Cx p s m args meth c RX11 cX11_sheet 4 (some FieldType.int) := E
  obtain ⟨hx, hb, hr, hml, hown, hu, hlocks⟩ := id E
  rw [f_X11_sheet] at hf
  refine lv_iload_n hx hb dX11_sheet_0 rfl (lv_at hl 1 rfl) ?_
  refine lv_iconst (v := 4) hx hb dX11_sheet_1 (by decide) ?_
  refine s_cSP (np := 2) (rest := []) E (c_X11_outside l x1 4 rfl) kyX11_outside u2_219 u2_220 (by decide) rfl hl.1 rfl (Nat.le_of_ble_eq_true rfl) ⟨Nat.zero_le _, Nat.zero_le _⟩ dX11_sheet_2 ?_
  refine lv_if_ne (tgt := 18) hx hb dX11_sheet_5 (by decide) (fun c1 => ?_) (fun c1 => ?_)
  · have hf := ite_f c1 hf
    refine lv_bipush (v := (-2)) hx hb dX11_sheet_18 (by decide) ?_
    cases hf
    exact s_iret hx hb hr hI.2.2 hI.1 hlocks dX11_sheet_20
  · have hf := ite_t c1 hf
    refine lv_iload_n hx hb dX11_sheet_8 rfl (lv_at hl 2 rfl) ?_
    refine lv_iconst (v := (-1)) hx hb dX11_sheet_9 (by decide) ?_
    refine lv_icmp_lt (tgt := 18) hx hb dX11_sheet_10 (by decide) (fun c2 => ?_) (fun c2 => ?_)
    · have hf := ite_t c2 hf
      refine lv_bipush (v := (-2)) hx hb dX11_sheet_18 (by decide) ?_
      cases hf
      exact s_iret hx hb hr hI.2.2 hI.1 hlocks dX11_sheet_20
    · have hf := ite_f c2 hf
      refine lv_iload_n hx hb dX11_sheet_13 rfl (lv_at hl 2 rfl) ?_
      refine lv_iconst (v := 3) hx hb dX11_sheet_14 (by decide) ?_
      refine lv_icmp_lt (tgt := 21) hx hb dX11_sheet_15 (by decide) (fun c3 => ?_) (fun c3 => ?_)
      · have hf := ite_t c3 hf
        refine lv_iload_n hx hb dX11_sheet_21 rfl (lv_at hl 2 rfl) ?_
        refine lv_iconst (v := (-1)) hx hb dX11_sheet_22 (by decide) ?_
        refine lv_icmp_ne (tgt := 39) hx hb dX11_sheet_23 (by decide) (fun c4 => ?_) (fun c4 => ?_)
        · have hf := ite_f c4 hf
          refine lv_iload_n hx hb dX11_sheet_39 rfl (lv_at hl 3 rfl) ?_
          refine lv_bipush (v := 40) hx hb dX11_sheet_40 (by decide) ?_
          refine lv_icmp_le (tgt := 48) hx hb dX11_sheet_42 (by decide) (fun c5 => ?_) (fun c5 => ?_)
          · have hf := ite_t c5 hf
            refine lv_iload_n hx hb dX11_sheet_48 rfl (lv_at hl 3 rfl) ?_
            refine lv_if_ge (tgt := 55) hx hb dX11_sheet_49 (by decide) (fun c6 => ?_) (fun c6 => ?_)
            · have hf := ite_t c6 hf
              refine lv_aload_n hx hb dX11_sheet_55 rfl (lv_at hl 0 rfl) ?_
              refine s_get (v := .ref (ad 118)) hx hb hu inU11 hown hK hI (mE hE.1 eC_100) rfl 8 (by decide) u2_183 (fun _ h => h) rfl rfl dX11_sheet_56 ?_
              refine lv_iload_n hx hb dX11_sheet_59 rfl (lv_at hl 1 rfl) ?_
              obtain ⟨h7, hf⟩ := chk_i hf
              obtain ⟨e8, h9, hf⟩ := bndO_i hf
              obtain ⟨h10, hf⟩ := chk_i hf
              refine s_ald (t := 8) (t0 := 7) (by decide) rfl hx hb hK hI (mE hE.1 eC_118) (inB_i h7) dX11_sheet_60 ?_
              refine s_nmO h9 ?_
              refine lv_iload_n hx hb dX11_sheet_61 rfl (lv_at hl 2 rfl) ?_
              refine lv_iload_n hx hb dX11_sheet_62 rfl (lv_at hl 3 rfl) ?_
              obtain ⟨G11, h12, hf⟩ := bndO_i hf
              refine s_afV hI (s_runV (rest := []) (As := [.int x2, .int x3]) (np := 2) E hK hI (s_B hcl hBs hI) hcl.2 (shS hE.1 h10) rfl (c_X6_become l D K sh ad cy X B hcl S hE e8 h10 G L O x2 x3 h12) kyX6_become u4_127 u4_128 u4_129 (by decide) rfl hl.1 rfl (Nat.le_of_ble_eq_true rfl) ⟨Nat.zero_le _, Nat.zero_le _⟩ dX11_sheet_63) (fun H locs hI => ?_)
              refine lv_iconst (v := 1) hx hb dX11_sheet_66 (by decide) ?_
              cases hf
              exact s_iret hx hb hr hI.2.2 hI.1 hlocks dX11_sheet_67
            · have hf := ite_f c6 hf
              refine lv_bipush (v := (-14)) hx hb dX11_sheet_52 (by decide) ?_
              cases hf
              exact s_iret hx hb hr hI.2.2 hI.1 hlocks dX11_sheet_54
          · have hf := ite_f c5 hf
            refine lv_bipush (v := (-2)) hx hb dX11_sheet_45 (by decide) ?_
            cases hf
            exact s_iret hx hb hr hI.2.2 hI.1 hlocks dX11_sheet_47
        · have hf := ite_t c4 hf
          refine lv_aload_n hx hb dX11_sheet_26 rfl (lv_at hl 0 rfl) ?_
          refine s_get (v := .ref (ad 118)) hx hb hu inU11 hown hK hI (mE hE.1 eC_100) rfl 8 (by decide) u2_183 (fun _ h => h) rfl rfl dX11_sheet_27 ?_
          refine lv_iload_n hx hb dX11_sheet_30 rfl (lv_at hl 1 rfl) ?_
          obtain ⟨h13, hf⟩ := chk_i hf
          obtain ⟨e14, h15, hf⟩ := bndO_i hf
          obtain ⟨h16, hf⟩ := chk_i hf
          refine s_ald (t := 8) (t0 := 7) (by decide) rfl hx hb hK hI (mE hE.1 eC_118) (inB_i h13) dX11_sheet_31 ?_
          refine s_nmO h15 ?_
          refine lv_iconst (v := (-1)) hx hb dX11_sheet_32 (by decide) ?_
          refine lv_iconst (v := 0) hx hb dX11_sheet_33 (by decide) ?_
          obtain ⟨G17, h18, hf⟩ := bndO_i hf
          refine s_afV hI (s_runV (rest := []) (As := [.int (-1), .int 0]) (np := 2) E hK hI (s_B hcl hBs hI) hcl.2 (shS hE.1 h16) rfl (c_X6_become l D K sh ad cy X B hcl S hE e14 h16 G L O (-1) 0 h18) kyX6_become u4_127 u4_128 u4_129 (by decide) rfl hl.1 rfl (Nat.le_of_ble_eq_true rfl) ⟨Nat.zero_le _, Nat.zero_le _⟩ dX11_sheet_34) (fun H locs hI => ?_)
          refine lv_iconst (v := 1) hx hb dX11_sheet_37 (by decide) ?_
          cases hf
          exact s_iret hx hb hr hI.2.2 hI.1 hlocks dX11_sheet_38
      · have hf := ite_f c3 hf
        refine lv_bipush (v := (-2)) hx hb dX11_sheet_18 (by decide) ?_
        cases hf
        exact s_iret hx hb hr hI.2.2 hI.1 hlocks dX11_sheet_20
noncomputable def f_X11_cell (G : Mem) (O : MemO) (S : Nat → Nat) (x1 : Int32) (x2 : Int32) (x3 : Int32) : Option (Mem × Int32) := (if (f_X11_outside x1 4) = 0 then chk (inB x1 4) (bndO (O 118 x1.toNatClampNeg) (fun e3 => chk (shE e3) ((if (f_X6_isMissing G e3) = 0 then (if (f_X11_outside x2 (G e3 2)) = 0 then bndO (f_X6_put G e3 x2 x3) (fun G8 => some (G8, 1)) else some (G, (-12))) else some (G, (-11)))))) else some (G, (-2)))
theorem kyX11_cell : Ky yX11_cell cX11_cell 5 (some FieldType.int) 3 := ⟨u4_135, u1_1, by decide, by decide, by decide, by decide +kernel⟩
set_option maxHeartbeats 4000000 in
set_option maxRecDepth 100000 in
theorem c_X11_cell (l : Launch) (D : va_G) (K : List Nat) (sh : Nat → Ent) (ad : Nat → Nat) (cy : Nat → ClassId) (X : va_W) (B : State → Prop) (hcl : Bcl (AS K ad X) B) (S : Nat → Nat) (hE : HC S K sh) (G : Mem) (L : MemL) (O : MemO) (x1 : Int32) (x2 : Int32) (x3 : Int32) {Gz : Mem} {vz : Int32} (hf : f_X11_cell G O S x1 x2 x3 = some (Gz, vz)) : Met l yX11_cell (wsU yX11_cell cX11_cell 5 (some FieldType.int)) (rmX 2 0 0) (va_Pc [.ref (ad 100), .int x1, .int x2, .int x3] (PS D K sh ad cy X B G L O)) (QI (AS K ad X) (PH D K sh ad cy X Gz L O) vz) 0 0 (AS K ad X) := by
  refine s_met (by decide) (Nat.le_of_ble_eq_true rfl) ?_
  intro p e s m args below meth c ls H locs E hK hBs hnm hI hl
  have hl : lv_has ls 5 [(0, .ref (ad 100)), (1, .int x1), (2, .int x2), (3, .int x3)] := hl
  have E : Cx p s m args meth c RX11 cX11_cell 5 (some FieldType.int) := E
  obtain ⟨hx, hb, hr, hml, hown, hu, hlocks⟩ := id E
  rw [f_X11_cell] at hf
  refine lv_iload_n hx hb dX11_cell_0 rfl (lv_at hl 1 rfl) ?_
  refine lv_iconst (v := 4) hx hb dX11_cell_1 (by decide) ?_
  refine s_cSP (np := 2) (rest := []) E (c_X11_outside l x1 4 rfl) kyX11_outside u2_219 u2_220 (by decide) rfl hl.1 rfl (Nat.le_of_ble_eq_true rfl) ⟨Nat.zero_le _, Nat.zero_le _⟩ dX11_cell_2 ?_
  refine lv_if_eq (tgt := 11) hx hb dX11_cell_5 (by decide) (fun c1 => ?_) (fun c1 => ?_)
  · have hf := ite_t c1 hf
    refine lv_aload_n hx hb dX11_cell_11 rfl (lv_at hl 0 rfl) ?_
    refine s_get (v := .ref (ad 118)) hx hb hu inU11 hown hK hI (mE hE.1 eC_100) rfl 8 (by decide) u2_183 (fun _ h => h) rfl rfl dX11_cell_12 ?_
    refine lv_iload_n hx hb dX11_cell_15 rfl (lv_at hl 1 rfl) ?_
    obtain ⟨h2, hf⟩ := chk_i hf
    obtain ⟨e3, h4, hf⟩ := bndO_i hf
    obtain ⟨h5, hf⟩ := chk_i hf
    refine s_ald (t := 8) (t0 := 7) (by decide) rfl hx hb hK hI (mE hE.1 eC_118) (inB_i h2) dX11_cell_16 ?_
    refine s_nmO h4 ?_
    refine lv_astore (lv' := [(4, .ref (ad e3)), (0, .ref (ad 100)), (1, .int x1), (2, .int x2), (3, .int x3)]) hx hb dX11_cell_17 hl (by decide) rfl (fun ls hl => ?_)
    refine lv_aload hx hb dX11_cell_19 (lv_at hl 0 rfl) ?_
    refine s_afI hI (s_runV (rest := []) (As := []) (np := 0) E hK hI (s_B hcl hBs hI) hcl.2 (shS hE.1 h5) rfl (c_X6_isMissing l D K sh ad cy X B hcl S hE e3 h5 G L O  rfl) kyX6_isMissing u3_186 u3_187 u3_188 (by decide) rfl hl.1 rfl (Nat.le_of_ble_eq_true rfl) ⟨Nat.zero_le _, Nat.zero_le _⟩ dX11_cell_21) (fun H locs hI => ?_)
    refine lv_if_eq (tgt := 30) hx hb dX11_cell_24 (by decide) (fun c6 => ?_) (fun c6 => ?_)
    · have hf := ite_t c6 hf
      refine lv_iload_n hx hb dX11_cell_30 rfl (lv_at hl 3 rfl) ?_
      refine lv_aload hx hb dX11_cell_31 (lv_at hl 0 rfl) ?_
      refine s_get (v := .int (G e3 2)) hx hb hu inU6 hown hK hI (shS hE.1 h5) rfl 2 (by decide) u1_192 (fun _ h => h) rfl rfl dX11_cell_33 ?_
      refine s_cSP (np := 2) (rest := []) E (c_X11_outside l x2 (G e3 2) rfl) kyX11_outside u2_219 u2_220 (by decide) rfl hl.1 rfl (Nat.le_of_ble_eq_true rfl) ⟨Nat.zero_le _, Nat.zero_le _⟩ dX11_cell_36 ?_
      refine lv_if_eq (tgt := 45) hx hb dX11_cell_39 (by decide) (fun c7 => ?_) (fun c7 => ?_)
      · have hf := ite_t c7 hf
        refine lv_aload hx hb dX11_cell_45 (lv_at hl 0 rfl) ?_
        refine lv_iload_n hx hb dX11_cell_47 rfl (lv_at hl 3 rfl) ?_
        refine lv_iload_n hx hb dX11_cell_48 rfl (lv_at hl 4 rfl) ?_
        obtain ⟨G8, h9, hf⟩ := bndO_i hf
        refine s_afV hI (s_runV (rest := []) (As := [.int x2, .int x3]) (np := 2) E hK hI (s_B hcl hBs hI) hcl.2 (shS hE.1 h5) rfl (c_X6_put l D K sh ad cy X B hcl S hE e3 h5 G L O x2 x3 h9) kyX6_put u4_136 u4_137 u4_138 (by decide) rfl hl.1 rfl (Nat.le_of_ble_eq_true rfl) ⟨Nat.zero_le _, Nat.zero_le _⟩ dX11_cell_49) (fun H locs hI => ?_)
        refine lv_iconst (v := 1) hx hb dX11_cell_52 (by decide) ?_
        cases hf
        exact s_iret hx hb hr hI.2.2 hI.1 hlocks dX11_cell_53
      · have hf := ite_f c7 hf
        refine lv_bipush (v := (-12)) hx hb dX11_cell_42 (by decide) ?_
        cases hf
        exact s_iret hx hb hr hI.2.2 hI.1 hlocks dX11_cell_44
    · have hf := ite_f c6 hf
      refine lv_bipush (v := (-11)) hx hb dX11_cell_27 (by decide) ?_
      cases hf
      exact s_iret hx hb hr hI.2.2 hI.1 hlocks dX11_cell_29
  · have hf := ite_f c1 hf
    refine lv_bipush (v := (-2)) hx hb dX11_cell_8 (by decide) ?_
    cases hf
    exact s_iret hx hb hr hI.2.2 hI.1 hlocks dX11_cell_10
noncomputable def f_X11_copy (G : Mem) (O : MemO) (S : Nat → Nat) (x1 : Int32) (x2 : Int32) (x3 : Int32) (x4 : Int32) (x5 : Int32) : Option (Mem × Int32) := (if (f_X11_outside x1 4) = 0 then (if (f_X11_outside x3 4) = 0 then chk (inB x1 4) (bndO (O 118 x1.toNatClampNeg) (fun e4 => chk (shE e4) (chk (inB x3 4) (bndO (O 118 x3.toNatClampNeg) (fun e8 => chk (shE e8) ((if (f_X6_isMissing G e4) = 0 then (if (f_X6_isMissing G e8) = 0 then (if (G e4 1) = (G e8 1) then (if (f_X6_hasRoom G e4 x2 x5) = 0 then some (G, (-12)) else (if (f_X6_hasRoom G e8 x4 x5) = 0 then some (G, (-12)) else chk (cpB x2 x4 x5 40 40) (bnd (cpG G (e4 + 4) (e8 + 4) x2 x4 x5) (fun G17 => some (G17, x5))))) else some (G, (-13))) else some (G, (-11))) else some (G, (-11))))))))) else some (G, (-2))) else some (G, (-2)))
theorem kyX11_copy : Ky yX11_copy cX11_copy 8 (some FieldType.int) 5 := ⟨u4_143, u1_1, by decide, by decide, by decide, by decide +kernel⟩
set_option maxHeartbeats 4000000 in
set_option maxRecDepth 100000 in
theorem c_X11_copy (l : Launch) (D : va_G) (K : List Nat) (sh : Nat → Ent) (ad : Nat → Nat) (cy : Nat → ClassId) (X : va_W) (B : State → Prop) (hcl : Bcl (AS K ad X) B) (S : Nat → Nat) (hE : HC S K sh) (G : Mem) (L : MemL) (O : MemO) (x1 : Int32) (x2 : Int32) (x3 : Int32) (x4 : Int32) (x5 : Int32) {Gz : Mem} {vz : Int32} (hf : f_X11_copy G O S x1 x2 x3 x4 x5 = some (Gz, vz)) : Met l yX11_copy (wsU yX11_copy cX11_copy 8 (some FieldType.int)) (rmX 2 0 0) (va_Pc [.ref (ad 100), .int x1, .int x2, .int x3, .int x4, .int x5] (PS D K sh ad cy X B G L O)) (QI (AS K ad X) (PH D K sh ad cy X Gz L O) vz) 0 0 (AS K ad X) := by
  refine s_met (by decide) (Nat.le_of_ble_eq_true rfl) ?_
  intro p e s m args below meth c ls H locs E hK hBs hnm hI hl
  have hl : lv_has ls 8 [(0, .ref (ad 100)), (1, .int x1), (2, .int x2), (3, .int x3), (4, .int x4), (5, .int x5)] := hl
  have E : Cx p s m args meth c RX11 cX11_copy 8 (some FieldType.int) := E
  obtain ⟨hx, hb, hr, hml, hown, hu, hlocks⟩ := id E
  rw [f_X11_copy] at hf
  refine lv_iload_n hx hb dX11_copy_0 rfl (lv_at hl 1 rfl) ?_
  refine lv_iconst (v := 4) hx hb dX11_copy_1 (by decide) ?_
  refine s_cSP (np := 2) (rest := []) E (c_X11_outside l x1 4 rfl) kyX11_outside u2_219 u2_220 (by decide) rfl hl.1 rfl (Nat.le_of_ble_eq_true rfl) ⟨Nat.zero_le _, Nat.zero_le _⟩ dX11_copy_2 ?_
  refine lv_if_ne (tgt := 16) hx hb dX11_copy_5 (by decide) (fun c1 => ?_) (fun c1 => ?_)
  · have hf := ite_f c1 hf
    refine lv_bipush (v := (-2)) hx hb dX11_copy_16 (by decide) ?_
    cases hf
    exact s_iret hx hb hr hI.2.2 hI.1 hlocks dX11_copy_18
  · have hf := ite_t c1 hf
    refine lv_iload_n hx hb dX11_copy_8 rfl (lv_at hl 3 rfl) ?_
    refine lv_iconst (v := 4) hx hb dX11_copy_9 (by decide) ?_
    refine s_cSP (np := 2) (rest := []) E (c_X11_outside l x3 4 rfl) kyX11_outside u2_219 u2_220 (by decide) rfl hl.1 rfl (Nat.le_of_ble_eq_true rfl) ⟨Nat.zero_le _, Nat.zero_le _⟩ dX11_copy_10 ?_
    refine lv_if_eq (tgt := 19) hx hb dX11_copy_13 (by decide) (fun c2 => ?_) (fun c2 => ?_)
    · have hf := ite_t c2 hf
      refine lv_aload_n hx hb dX11_copy_19 rfl (lv_at hl 0 rfl) ?_
      refine s_get (v := .ref (ad 118)) hx hb hu inU11 hown hK hI (mE hE.1 eC_100) rfl 8 (by decide) u2_183 (fun _ h => h) rfl rfl dX11_copy_20 ?_
      refine lv_iload_n hx hb dX11_copy_23 rfl (lv_at hl 1 rfl) ?_
      obtain ⟨h3, hf⟩ := chk_i hf
      obtain ⟨e4, h5, hf⟩ := bndO_i hf
      obtain ⟨h6, hf⟩ := chk_i hf
      refine s_ald (t := 8) (t0 := 7) (by decide) rfl hx hb hK hI (mE hE.1 eC_118) (inB_i h3) dX11_copy_24 ?_
      refine s_nmO h5 ?_
      refine lv_astore (lv' := [(6, .ref (ad e4)), (0, .ref (ad 100)), (1, .int x1), (2, .int x2), (3, .int x3), (4, .int x4), (5, .int x5)]) hx hb dX11_copy_25 hl (by decide) rfl (fun ls hl => ?_)
      refine lv_aload_n hx hb dX11_copy_27 rfl (lv_at hl 1 rfl) ?_
      refine s_get (v := .ref (ad 118)) hx hb hu inU11 hown hK hI (mE hE.1 eC_100) rfl 8 (by decide) u2_183 (fun _ h => h) rfl rfl dX11_copy_28 ?_
      refine lv_iload_n hx hb dX11_copy_31 rfl (lv_at hl 4 rfl) ?_
      obtain ⟨h7, hf⟩ := chk_i hf
      obtain ⟨e8, h9, hf⟩ := bndO_i hf
      obtain ⟨h10, hf⟩ := chk_i hf
      refine s_ald (t := 8) (t0 := 7) (by decide) rfl hx hb hK hI (mE hE.1 eC_118) (inB_i h7) dX11_copy_32 ?_
      refine s_nmO h9 ?_
      refine lv_astore (lv' := [(7, .ref (ad e8)), (6, .ref (ad e4)), (0, .ref (ad 100)), (1, .int x1), (2, .int x2), (3, .int x3), (4, .int x4), (5, .int x5)]) hx hb dX11_copy_33 hl (by decide) rfl (fun ls hl => ?_)
      refine lv_aload hx hb dX11_copy_35 (lv_at hl 1 rfl) ?_
      refine s_afI hI (s_runV (rest := []) (As := []) (np := 0) E hK hI (s_B hcl hBs hI) hcl.2 (shS hE.1 h6) rfl (c_X6_isMissing l D K sh ad cy X B hcl S hE e4 h6 G L O  rfl) kyX6_isMissing u3_186 u3_187 u3_188 (by decide) rfl hl.1 rfl (Nat.le_of_ble_eq_true rfl) ⟨Nat.zero_le _, Nat.zero_le _⟩ dX11_copy_37) (fun H locs hI => ?_)
      refine lv_if_ne (tgt := 51) hx hb dX11_copy_40 (by decide) (fun c11 => ?_) (fun c11 => ?_)
      · have hf := ite_f c11 hf
        refine lv_bipush (v := (-11)) hx hb dX11_copy_51 (by decide) ?_
        cases hf
        exact s_iret hx hb hr hI.2.2 hI.1 hlocks dX11_copy_53
      · have hf := ite_t c11 hf
        refine lv_aload hx hb dX11_copy_43 (lv_at hl 0 rfl) ?_
        refine s_afI hI (s_runV (rest := []) (As := []) (np := 0) E hK hI (s_B hcl hBs hI) hcl.2 (shS hE.1 h10) rfl (c_X6_isMissing l D K sh ad cy X B hcl S hE e8 h10 G L O  rfl) kyX6_isMissing u3_186 u3_187 u3_188 (by decide) rfl hl.1 rfl (Nat.le_of_ble_eq_true rfl) ⟨Nat.zero_le _, Nat.zero_le _⟩ dX11_copy_45) (fun H locs hI => ?_)
        refine lv_if_eq (tgt := 54) hx hb dX11_copy_48 (by decide) (fun c12 => ?_) (fun c12 => ?_)
        · have hf := ite_t c12 hf
          refine lv_aload hx hb dX11_copy_54 (lv_at hl 1 rfl) ?_
          refine s_get (v := .int (G e4 1)) hx hb hu inU6 hown hK hI (shS hE.1 h6) rfl 1 (by decide) u1_189 (fun _ h => h) rfl rfl dX11_copy_56 ?_
          refine lv_aload hx hb dX11_copy_59 (lv_at hl 0 rfl) ?_
          refine s_get (v := .int (G e8 1)) hx hb hu inU6 hown hK hI (shS hE.1 h10) rfl 1 (by decide) u1_189 (fun _ h => h) rfl rfl dX11_copy_61 ?_
          refine lv_icmp_eq (tgt := 70) hx hb dX11_copy_64 (by decide) (fun c13 => ?_) (fun c13 => ?_)
          · have hf := ite_t c13 hf
            refine lv_aload hx hb dX11_copy_70 (lv_at hl 1 rfl) ?_
            refine lv_iload_n hx hb dX11_copy_72 rfl (lv_at hl 4 rfl) ?_
            refine lv_iload hx hb dX11_copy_73 (lv_at hl 7 rfl) ?_
            refine s_afI hI (s_runV (rest := []) (As := [.int x2, .int x5]) (np := 2) E hK hI (s_B hcl hBs hI) hcl.2 (shS hE.1 h6) rfl (c_X6_hasRoom l D K sh ad cy X B hcl S hE e4 h6 G L O x2 x5 rfl) kyX6_hasRoom u4_144 u4_145 u4_146 (by decide) rfl hl.1 rfl (Nat.le_of_ble_eq_true rfl) ⟨Nat.zero_le _, Nat.zero_le _⟩ dX11_copy_75) (fun H locs hI => ?_)
            refine lv_if_eq (tgt := 93) hx hb dX11_copy_78 (by decide) (fun c14 => ?_) (fun c14 => ?_)
            · have hf := ite_t c14 hf
              refine lv_bipush (v := (-12)) hx hb dX11_copy_93 (by decide) ?_
              cases hf
              exact s_iret hx hb hr hI.2.2 hI.1 hlocks dX11_copy_95
            · have hf := ite_f c14 hf
              refine lv_aload hx hb dX11_copy_81 (lv_at hl 0 rfl) ?_
              refine lv_iload hx hb dX11_copy_83 (lv_at hl 6 rfl) ?_
              refine lv_iload hx hb dX11_copy_85 (lv_at hl 7 rfl) ?_
              refine s_afI hI (s_runV (rest := []) (As := [.int x4, .int x5]) (np := 2) E hK hI (s_B hcl hBs hI) hcl.2 (shS hE.1 h10) rfl (c_X6_hasRoom l D K sh ad cy X B hcl S hE e8 h10 G L O x4 x5 rfl) kyX6_hasRoom u4_144 u4_145 u4_146 (by decide) rfl hl.1 rfl (Nat.le_of_ble_eq_true rfl) ⟨Nat.zero_le _, Nat.zero_le _⟩ dX11_copy_87) (fun H locs hI => ?_)
              refine lv_if_ne (tgt := 96) hx hb dX11_copy_90 (by decide) (fun c15 => ?_) (fun c15 => ?_)
              · have hf := ite_f c15 hf
                refine lv_aload hx hb dX11_copy_96 (lv_at hl 1 rfl) ?_
                refine s_get (v := .ref (ad (e4 + 4))) hx hb hu inU6 hown hK hI (shS hE.1 h6) rfl 0 (by decide) u1_187 (fun _ h => h) rfl rfl dX11_copy_98 ?_
                refine lv_iload_n hx hb dX11_copy_101 rfl (lv_at hl 4 rfl) ?_
                refine lv_aload hx hb dX11_copy_102 (lv_at hl 0 rfl) ?_
                refine s_get (v := .ref (ad (e8 + 4))) hx hb hu inU6 hown hK hI (shS hE.1 h10) rfl 0 (by decide) u1_187 (fun _ h => h) rfl rfl dX11_copy_104 ?_
                refine lv_iload hx hb dX11_copy_107 (lv_at hl 6 rfl) ?_
                refine lv_iload hx hb dX11_copy_109 (lv_at hl 7 rfl) ?_
                obtain ⟨h16, hf⟩ := chk_i hf
                obtain ⟨G17, eG17, hf⟩ := bnd_i hf
                refine s_copyi (rest := []) E hK hI hl.1 u4_148 u2_151 u2_150 u1_14 (shI hE.1 h6) (shI hE.1 h10) h16 eG17 (by decide) (Nat.le_of_ble_eq_true rfl) dX11_copy_111 (fun H locs hI => ?_)
                refine lv_iload hx hb dX11_copy_114 (lv_at hl 7 rfl) ?_
                cases hf
                exact s_iret hx hb hr hI.2.2 hI.1 hlocks dX11_copy_116
              · have hf := ite_t c15 hf
                refine lv_bipush (v := (-12)) hx hb dX11_copy_93 (by decide) ?_
                cases hf
                exact s_iret hx hb hr hI.2.2 hI.1 hlocks dX11_copy_95
          · have hf := ite_f c13 hf
            refine lv_bipush (v := (-13)) hx hb dX11_copy_67 (by decide) ?_
            cases hf
            exact s_iret hx hb hr hI.2.2 hI.1 hlocks dX11_copy_69
        · have hf := ite_f c12 hf
          refine lv_bipush (v := (-11)) hx hb dX11_copy_51 (by decide) ?_
          cases hf
          exact s_iret hx hb hr hI.2.2 hI.1 hlocks dX11_copy_53
    · have hf := ite_f c2 hf
      refine lv_bipush (v := (-2)) hx hb dX11_copy_16 (by decide) ?_
      cases hf
      exact s_iret hx hb hr hI.2.2 hI.1 hlocks dX11_copy_18
noncomputable def f_X11_taken (G : Mem) (O : MemO) (S : Nat → Nat) (x1 : Int32) (x2 : Int32) : Option (Int32) := (if (f_X11_outside x2 6) = 0 then (if (f_X11_outside x1 (G 100 4)) = 0 then chk (inB x1 10) (bndO (O 113 x1.toNatClampNeg) (fun e4 => chk (sgE S e4) ((if (f_DisUnder S e4 x2) = 0 then some (-13) else some (G e4 2))))) else some (-11)) else some (-2))
theorem kyX11_taken : Ky yX11_taken cX11_taken 4 (some FieldType.int) 2 := ⟨u4_157, u1_1, by decide, by decide, by decide, by decide +kernel⟩
set_option maxHeartbeats 4000000 in
set_option maxRecDepth 100000 in
theorem c_X11_taken (l : Launch) (D : va_G) (K : List Nat) (sh : Nat → Ent) (ad : Nat → Nat) (cy : Nat → ClassId) (X : va_W) (B : State → Prop) (hcl : Bcl (AS K ad X) B) (S : Nat → Nat) (hE : HC S K sh) (G : Mem) (L : MemL) (O : MemO) (x1 : Int32) (x2 : Int32)  {vz : Int32} (hf : f_X11_taken G O S x1 x2 = some vz) : Met l yX11_taken (wsU yX11_taken cX11_taken 4 (some FieldType.int)) (rmX 4 0 0) (va_Pc [.ref (ad 100), .int x1, .int x2] (PS D K sh ad cy X B G L O)) (QI (AS K ad X) (PH D K sh ad cy X G L O) vz) 0 0 (AS K ad X) := by
  refine s_met (by decide) (Nat.le_of_ble_eq_true rfl) ?_
  intro p e s m args below meth c ls H locs E hK hBs hnm hI hl
  have hl : lv_has ls 4 [(0, .ref (ad 100)), (1, .int x1), (2, .int x2)] := hl
  have E : Cx p s m args meth c RX11 cX11_taken 4 (some FieldType.int) := E
  obtain ⟨hx, hb, hr, hml, hown, hu, hlocks⟩ := id E
  rw [f_X11_taken] at hf
  refine lv_iload_n hx hb dX11_taken_0 rfl (lv_at hl 2 rfl) ?_
  refine lv_bipush (v := 6) hx hb dX11_taken_1 (by decide) ?_
  refine s_cSP (np := 2) (rest := []) E (c_X11_outside l x2 6 rfl) kyX11_outside u2_219 u2_220 (by decide) rfl hl.1 rfl (Nat.le_of_ble_eq_true rfl) ⟨Nat.zero_le _, Nat.zero_le _⟩ dX11_taken_3 ?_
  refine lv_if_eq (tgt := 12) hx hb dX11_taken_6 (by decide) (fun c1 => ?_) (fun c1 => ?_)
  · have hf := ite_t c1 hf
    refine lv_iload_n hx hb dX11_taken_12 rfl (lv_at hl 1 rfl) ?_
    refine lv_aload_n hx hb dX11_taken_13 rfl (lv_at hl 0 rfl) ?_
    refine s_get (v := .int (G 100 4)) hx hb hu inU11 hown hK hI (mE hE.1 eC_100) rfl 4 (by decide) u2_179 (fun _ h => h) rfl rfl dX11_taken_14 ?_
    refine s_cSP (np := 2) (rest := []) E (c_X11_outside l x1 (G 100 4) rfl) kyX11_outside u2_219 u2_220 (by decide) rfl hl.1 rfl (Nat.le_of_ble_eq_true rfl) ⟨Nat.zero_le _, Nat.zero_le _⟩ dX11_taken_17 ?_
    refine lv_if_eq (tgt := 26) hx hb dX11_taken_20 (by decide) (fun c2 => ?_) (fun c2 => ?_)
    · have hf := ite_t c2 hf
      refine lv_aload_n hx hb dX11_taken_26 rfl (lv_at hl 0 rfl) ?_
      refine s_get (v := .ref (ad 113)) hx hb hu inU11 hown hK hI (mE hE.1 eC_100) rfl 3 (by decide) u2_178 (fun _ h => h) rfl rfl dX11_taken_27 ?_
      refine lv_iload_n hx hb dX11_taken_30 rfl (lv_at hl 1 rfl) ?_
      obtain ⟨h3, hf⟩ := chk_i hf
      obtain ⟨e4, h5, hf⟩ := bndO_i hf
      obtain ⟨h6, hf⟩ := chk_i hf
      refine s_ald (t := 6) (t0 := 5) (by decide) rfl hx hb hK hI (mE hE.1 eC_113) (inB_i h3) dX11_taken_31 ?_
      refine s_nmO h5 ?_
      refine lv_astore_n (lv' := [(3, .ref (ad e4)), (0, .ref (ad 100)), (1, .int x1), (2, .int x2)]) hx hb dX11_taken_32 rfl hl (by decide) rfl (fun ls hl => ?_)
      refine lv_aload_n hx hb dX11_taken_33 rfl (lv_at hl 0 rfl) ?_
      refine lv_iload_n hx hb dX11_taken_34 rfl (lv_at hl 3 rfl) ?_
      refine s_afI hI (r_RX11_251 l D K sh ad cy X B hcl S e4 (⟨hE.2.1 _ h6, h6⟩) x2 E hK hI (s_B hcl hBs hI) (by decide) hl.1 (Nat.le_of_ble_eq_true rfl) dX11_taken_35) (fun H locs hI => ?_)
      refine lv_if_eq (tgt := 48) hx hb dX11_taken_38 (by decide) (fun c7 => ?_) (fun c7 => ?_)
      · have hf := ite_t c7 hf
        refine lv_bipush (v := (-13)) hx hb dX11_taken_48 (by decide) ?_
        cases hf
        exact s_iret hx hb hr hI.2.2 hI.1 hlocks dX11_taken_50
      · have hf := ite_f c7 hf
        refine lv_aload_n hx hb dX11_taken_41 rfl (lv_at hl 0 rfl) ?_
        refine s_getSg hx hb hu hown hK hI (⟨hE.2.1 _ h6, h6⟩) 2 (by decide) u3_6 (fun _ h => h) dX11_taken_42 ?_
        refine lv_goto (tgt := 50) hx hb dX11_taken_45 (by decide) ?_
        cases hf
        exact s_iret hx hb hr hI.2.2 hI.1 hlocks dX11_taken_50
    · have hf := ite_f c2 hf
      refine lv_bipush (v := (-11)) hx hb dX11_taken_23 (by decide) ?_
      cases hf
      exact s_iret hx hb hr hI.2.2 hI.1 hlocks dX11_taken_25
  · have hf := ite_f c1 hf
    refine lv_bipush (v := (-2)) hx hb dX11_taken_9 (by decide) ?_
    cases hf
    exact s_iret hx hb hr hI.2.2 hI.1 hlocks dX11_taken_11
