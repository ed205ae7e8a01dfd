noncomputable def q_X12_badOf_53 (x1 : Int32) (k9 : (Mem × Int64 × Int32) → Option (Mem × Int64)) (k32 : (Mem × Int64 × Int32 × Int32) → Option (Mem × Int64)) (rec : (Mem × Int64 × Int32 × Int32 × Int32) → Option (Mem × Int64)) : (Mem × Int64 × Int32 × Int32 × Int32) → Option (Mem × Int64) := fun (G, w2, x4, x5, x6) => (if 6 ≤ x6 then chk (inB x4 48) (bnd (up2 G 15 (1 : Int32).toNatClampNeg (G 1 x4.toNatClampNeg)) (fun G15 => bnd (up2 G15 15 (2 : Int32).toNatClampNeg x4) (fun G16 => bndP (f_X12_gives G16 2) (fun G17 v18 => chk (inB x5 4) (bndO (f_X12_ofVoice G17 x5) (fun v21 => bnd (w2 + (((f_X12_held v18 99).toInt64) * (((G17 4 x5.toNatClampNeg) - v21).toInt64))) (fun w2_23 => bnd (x5 + 1) (fun x5_24 => k32 (G17, w2_23, x4, x5_24))))))))) else chk (inB x6 6) (bnd (up2 G 15 x6.toNatClampNeg 0) (fun G26 => bnd (x6 + 1) (fun x6_27 => rec (G26, w2, x4, x5, x6_27)))))
noncomputable def q_X12_badOf_32 (x1 : Int32) (k9 : (Mem × Int64 × Int32) → Option (Mem × Int64)) (rec : (Mem × Int64 × Int32 × Int32) → Option (Mem × Int64)) : (Mem × Int64 × Int32 × Int32) → Option (Mem × Int64) := fun (G, w2, x4, x5) => (if 4 ≤ x5 then bnd (x4 + 1) (fun x4_9 => k9 (G, w2, x4_9)) else bndO (f_X12_isHeard G x5) (fun v10 => (if v10 = 0 then bnd (x5 + 1) (fun x5_28 => rec (G, w2, x4, x5_28)) else iter (q_X12_badOf_53 x1 k9 rec) fuel (G, w2, x4, x5, 0))))
noncomputable def q_X12_badOf_9 (x1 : Int32)  (rec : (Mem × Int64 × Int32) → Option (Mem × Int64)) : (Mem × Int64 × Int32) → Option (Mem × Int64) := fun (G, w2, x4) => (if (G 0 1) ≤ x4 then some (G, w2) else bndO (f_X12_go G x1 x4) (fun G4 => bndO (f_X12_lookThin G4) (fun G6 => iter (q_X12_badOf_32 x1 rec) fuel (G6, w2, x4, 0))))
noncomputable def f_X12_badOf (G : Mem) (x1 : Int32) : Option (Mem × Int64) := bndO (f_X12_beginThin G) (fun G1 => iter (q_X12_badOf_9 x1) fuel (G1, 0, 0))
theorem kyX12_badOf : Ky yX12_badOf cX12_badOf 7 (some FieldType.long) 1 := ⟨u6_76, u1_15, by decide, by decide, by decide, by decide +kernel⟩
set_option maxHeartbeats 4000000 in
set_option maxRecDepth 100000 in
theorem c_X12_badOf (l : Launch) (D : va_G) (K : List Nat) (sh : Nat → Ent) (ad : Nat → Nat) (cy : Nat → ClassId) (X : va_W) (B : State → Prop) (hcl : Bcl (AS K ad X) B) (hE : ∀ q ∈ shM, q.1 ∈ K ∧ sh q.1 = q.2) (G : Mem) (L : MemL) (O : MemO) (x1 : Int32) {Gz : Mem} {vz : Int64} (hf : f_X12_badOf G x1 = some (Gz, vz)) : Met l yX12_badOf (wsU yX12_badOf cX12_badOf 7 (some FieldType.long)) (rmX 5 0 0) (va_Pc [.ref (ad 0), .int x1] (PS D K sh ad cy X B G L O)) (QL (AS K ad X) (PH D K sh ad cy X Gz L O) vz) 0 0 (AS K ad X) := by
  refine s_met (by decide) (Nat.le_of_ble_eq_true rfl) ?_
  intro p e s m args below meth c ls H locs E hK hBs hnm hI hl
  have hl : lv_has ls 7 [(0, .ref (ad 0)), (1, .int x1)] := hl
  have E : Cx p s m args meth c RX12 cX12_badOf 7 (some FieldType.long) := E
  obtain ⟨hx, hb, hr, hml, hown, hu, hlocks⟩ := id E
  have B53 : ∀ (k9 : (Mem × Int64 × Int32) → Option (Mem × Int64)) (k32 : (Mem × Int64 × Int32 × Int32) → Option (Mem × Int64)) (hk9 : ∀ (G : Mem) (w2 : Int64) (x4 : Int32) (H : Heap) (locs : List Loc) (ls : Array Slot), lv_has ls 7 [(0, .ref (ad 0)), (1, .int x1), (2, .long w2), (4, .int x4)] → IS D K sh ad cy X (AS K ad X) s.heap H locs G L O → k9 (G, w2, x4) = some (Gz, vz) → W p l e (rmX 5 0 0) s m args below meth c H locs 0 0 (MQ below (QL (AS K ad X) (PH D K sh ad cy X Gz L O) vz) args s 0 0 (AS K ad X)) (F0 m 9 ls [])) (hk32 : ∀ (G : Mem) (w2 : Int64) (x4 : Int32) (x5 : Int32) (H : Heap) (locs : List Loc) (ls : Array Slot), lv_has ls 7 [(0, .ref (ad 0)), (1, .int x1), (2, .long w2), (4, .int x4), (5, .int x5)] → IS D K sh ad cy X (AS K ad X) s.heap H locs G L O → k32 (G, w2, x4, x5) = some (Gz, vz) → W p l e (rmX 5 0 0) s m args below meth c H locs 0 0 (MQ below (QL (AS K ad X) (PH D K sh ad cy X Gz L O) vz) args s 0 0 (AS K ad X)) (F0 m 32 ls [])) (n : Nat) (G : Mem) (w2 : Int64) (x4 : Int32) (x5 : Int32) (x6 : Int32) (H : Heap) (locs : List Loc) (ls : Array Slot), lv_has ls 7 [(0, .ref (ad 0)), (1, .int x1), (2, .long w2), (4, .int x4), (5, .int x5), (6, .int x6)] → IS D K sh ad cy X (AS K ad X) s.heap H locs G L O → iter (q_X12_badOf_53 x1 k9 k32) n (G, w2, x4, x5, x6) = some (Gz, vz) → W p l e (rmX 5 0 0) s m args below meth c H locs 0 0 (MQ below (QL (AS K ad X) (PH D K sh ad cy X Gz L O) vz) args s 0 0 (AS K ad X)) (F0 m 53 ls []) := by
    intro k9 k32 hk9 hk32 n
    induction n with
    | zero => intro G w2 x4 x5 x6 H locs ls hl hI hf; exact iter_0 hf
    | succ n ih =>
      intro G w2 x4 x5 x6 H locs ls hl hI hf
      have hf : q_X12_badOf_53 x1 k9 k32 (iter (q_X12_badOf_53 x1 k9 k32) n) (G, w2, x4, x5, x6) = some (Gz, vz) := hf
      rw [q_X12_badOf_53] at hf
      refine lv_iload hx hb dX12_badOf_53 (lv_at hl 5 rfl) ?_
      refine lv_bipush (v := 6) hx hb dX12_badOf_55 (by decide) ?_
      refine lv_icmp_ge (tgt := 74) hx hb dX12_badOf_57 (by decide) (fun c13 => ?_) (fun c13 => ?_)
      · have hf := ite_t c13 hf
        refine lv_aload_n hx hb dX12_badOf_74 rfl (lv_at hl 0 rfl) ?_
        refine s_get (v := .ref (ad 15)) hx hb hu inU12 hown hK hI (mE hE eM_0) rfl 28 (by decide) u4_216 (fun _ h => h) rfl rfl dX12_badOf_75 ?_
        refine lv_iconst (v := 1) hx hb dX12_badOf_78 (by decide) ?_
        refine lv_aload_n hx hb dX12_badOf_79 rfl (lv_at hl 0 rfl) ?_
        refine s_get (v := .ref (ad 1)) hx hb hu inU12 hown hK hI (mE hE eM_0) rfl 3 (by decide) u4_191 (fun _ h => h) rfl rfl dX12_badOf_80 ?_
        refine lv_iload hx hb dX12_badOf_83 (lv_at hl 3 rfl) ?_
        obtain ⟨h14, hf⟩ := chk_i hf
        refine s_ild hx hb hK hI (mE hE eM_1) (inB_i h14) dX12_badOf_85 ?_
        obtain ⟨G15, eG15, hf⟩ := bnd_i hf
        refine s_ist hx hb hK hI (mE hE eM_15) (inB_i (by decide)) eG15 dX12_badOf_86 (fun H locs hI => ?_)
        refine lv_aload_n hx hb dX12_badOf_87 rfl (lv_at hl 0 rfl) ?_
        refine s_get (v := .ref (ad 15)) hx hb hu inU12 hown hK hI (mE hE eM_0) rfl 28 (by decide) u4_216 (fun _ h => h) rfl rfl dX12_badOf_88 ?_
        refine lv_iconst (v := 2) hx hb dX12_badOf_91 (by decide) ?_
        refine lv_iload hx hb dX12_badOf_92 (lv_at hl 3 rfl) ?_
        obtain ⟨G16, eG16, hf⟩ := bnd_i hf
        refine s_ist hx hb hK hI (mE hE eM_15) (inB_i (by decide)) eG16 dX12_badOf_94 (fun H locs hI => ?_)
        refine lv_lload_n hx hb dX12_badOf_95 rfl (lv_at hl 2 rfl) ?_
        refine lv_aload_n hx hb dX12_badOf_96 rfl (lv_at hl 0 rfl) ?_
        refine lv_iconst (v := 2) hx hb dX12_badOf_97 (by decide) ?_
        obtain ⟨G17, v18, h19, hf⟩ := bndP_i hf
        refine s_afI hI (s_runV (rest := [.long w2]) (As := [.int 2]) (np := 1) E hK hI (s_B hcl hBs hI) hcl.2 (mE hE eM_0) rfl (c_X12_gives l D K sh ad cy X B hcl hE G16 L O 2 h19) kyX12_gives u6_33 u6_35 up_52 (by decide) rfl hl.1 rfl (Nat.le_of_ble_eq_true rfl) ⟨Nat.zero_le _, Nat.zero_le _⟩ dX12_badOf_98) (fun H locs hI => ?_)
        refine lv_bipush (v := 99) hx hb dX12_badOf_101 (by decide) ?_
        refine s_cSP (np := 2) (rest := [.long w2]) E (c_X12_held l v18 99 rfl) kyX12_held u6_77 u6_78 (by decide) rfl hl.1 rfl (Nat.le_of_ble_eq_true rfl) ⟨Nat.zero_le _, Nat.zero_le _⟩ dX12_badOf_103 ?_
        refine lv_i2l (v := ((f_X12_held v18 99).toInt64)) hx hb dX12_badOf_106 rfl ?_
        refine lv_aload_n hx hb dX12_badOf_107 rfl (lv_at hl 0 rfl) ?_
        refine s_get (v := .ref (ad 4)) hx hb hu inU12 hown hK hI (mE hE eM_0) rfl 6 (by decide) u4_194 (fun _ h => h) rfl rfl dX12_badOf_108 ?_
        refine lv_iload hx hb dX12_badOf_111 (lv_at hl 4 rfl) ?_
        obtain ⟨h20, hf⟩ := chk_i hf
        refine s_ild hx hb hK hI (mE hE eM_4) (inB_i h20) dX12_badOf_113 ?_
        refine lv_aload_n hx hb dX12_badOf_114 rfl (lv_at hl 0 rfl) ?_
        refine lv_iload hx hb dX12_badOf_115 (lv_at hl 4 rfl) ?_
        obtain ⟨v21, h22, hf⟩ := bndO_i hf
        refine s_afI hI (s_runV (rest := [.int (G17 4 x5.toNatClampNeg), .long ((f_X12_held v18 99).toInt64), .long w2]) (As := [.int x5]) (np := 1) E hK hI (s_B hcl hBs hI) hcl.2 (mE hE eM_0) rfl (c_X12_ofVoice l D K sh ad cy X B hcl hE G17 L O x5 h22) kyX12_ofVoice u6_44 u6_46 up_53 (by decide) rfl hl.1 rfl (Nat.le_of_ble_eq_true rfl) ⟨Nat.zero_le _, Nat.zero_le _⟩ dX12_badOf_117) (fun H locs hI => ?_)
        refine lv_isub hx hb dX12_badOf_120 ?_
        refine lv_i2l (v := (((G17 4 x5.toNatClampNeg) - v21).toInt64)) hx hb dX12_badOf_121 rfl ?_
        refine lv_lmul hx hb dX12_badOf_122 ?_
        refine lv_ladd hx hb dX12_badOf_123 ?_
        obtain ⟨w2_23, ew2_23, hf⟩ := bnd_i hf
        refine s_nmL ew2_23 ?_
        refine lv_lstore_n (lv' := [(2, .long w2_23), (0, .ref (ad 0)), (1, .int x1), (4, .int x4), (5, .int x5), (6, .int x6)]) hx hb dX12_badOf_124 rfl hl (by decide) rfl (fun ls hl => ?_)
        obtain ⟨x5_24, ex5_24, hf⟩ := bnd_i hf
        refine lv_iinc (v := x5_24) (lv' := [(5, .int x5_24), (2, .long w2_23), (0, .ref (ad 0)), (1, .int x1), (4, .int x4), (6, .int x6)]) hx hb dX12_badOf_125 hl (k := 4) rfl (by rw [ex5_24]; rfl) (by decide) rfl (fun ls hl => ?_)
        refine lv_goto (tgt := 32) hx hb dX12_badOf_128 (by decide) ?_
        exact hk32 G17 w2_23 x4 x5_24 H locs ls (lv_sub hl [2, 3, 1, 4, 0] rfl) hI hf
      · have hf := ite_f c13 hf
        refine lv_aload_n hx hb dX12_badOf_60 rfl (lv_at hl 0 rfl) ?_
        refine s_get (v := .ref (ad 15)) hx hb hu inU12 hown hK hI (mE hE eM_0) rfl 28 (by decide) u4_216 (fun _ h => h) rfl rfl dX12_badOf_61 ?_
        refine lv_iload hx hb dX12_badOf_64 (lv_at hl 5 rfl) ?_
        refine lv_iconst (v := 0) hx hb dX12_badOf_66 (by decide) ?_
        obtain ⟨h25, hf⟩ := chk_i hf
        obtain ⟨G26, eG26, hf⟩ := bnd_i hf
        refine s_ist hx hb hK hI (mE hE eM_15) (inB_i h25) eG26 dX12_badOf_67 (fun H locs hI => ?_)
        obtain ⟨x6_27, ex6_27, hf⟩ := bnd_i hf
        refine lv_iinc (v := x6_27) (lv' := [(6, .int x6_27), (0, .ref (ad 0)), (1, .int x1), (2, .long w2), (4, .int x4), (5, .int x5)]) hx hb dX12_badOf_68 hl (k := 5) rfl (by rw [ex6_27]; rfl) (by decide) rfl (fun ls hl => ?_)
        refine lv_goto (tgt := 53) hx hb dX12_badOf_71 (by decide) ?_
        exact ih G26 w2 x4 x5 x6_27 H locs ls (lv_sub hl [1, 2, 3, 4, 5, 0] rfl) hI hf
  have B32 : ∀ (k9 : (Mem × Int64 × Int32) → Option (Mem × Int64)) (hk9 : ∀ (G : Mem) (w2 : Int64) (x4 : Int32) (H : Heap) (locs : List Loc) (ls : Array Slot), lv_has ls 7 [(0, .ref (ad 0)), (1, .int x1), (2, .long w2), (4, .int x4)] → IS D K sh ad cy X (AS K ad X) s.heap H locs G L O → k9 (G, w2, x4) = some (Gz, vz) → W p l e (rmX 5 0 0) s m args below meth c H locs 0 0 (MQ below (QL (AS K ad X) (PH D K sh ad cy X Gz L O) vz) args s 0 0 (AS K ad X)) (F0 m 9 ls [])) (n : Nat) (G : Mem) (w2 : Int64) (x4 : Int32) (x5 : Int32) (H : Heap) (locs : List Loc) (ls : Array Slot), lv_has ls 7 [(0, .ref (ad 0)), (1, .int x1), (2, .long w2), (4, .int x4), (5, .int x5)] → IS D K sh ad cy X (AS K ad X) s.heap H locs G L O → iter (q_X12_badOf_32 x1 k9) n (G, w2, x4, x5) = some (Gz, vz) → W p l e (rmX 5 0 0) s m args below meth c H locs 0 0 (MQ below (QL (AS K ad X) (PH D K sh ad cy X Gz L O) vz) args s 0 0 (AS K ad X)) (F0 m 32 ls []) := by
    intro k9 hk9 n
    induction n with
    | zero => intro G w2 x4 x5 H locs ls hl hI hf; exact iter_0 hf
    | succ n ih =>
      intro G w2 x4 x5 H locs ls hl hI hf
      have hf : q_X12_badOf_32 x1 k9 (iter (q_X12_badOf_32 x1 k9) n) (G, w2, x4, x5) = some (Gz, vz) := hf
      rw [q_X12_badOf_32] at hf
      refine lv_iload hx hb dX12_badOf_32 (lv_at hl 4 rfl) ?_
      refine lv_iconst (v := 4) hx hb dX12_badOf_34 (by decide) ?_
      refine lv_icmp_ge (tgt := 131) hx hb dX12_badOf_35 (by decide) (fun c8 => ?_) (fun c8 => ?_)
      · have hf := ite_t c8 hf
        obtain ⟨x4_9, ex4_9, hf⟩ := bnd_i hf
        refine lv_iinc (v := x4_9) (lv' := [(4, .int x4_9), (0, .ref (ad 0)), (1, .int x1), (2, .long w2), (5, .int x5)]) hx hb dX12_badOf_131 hl (k := 3) rfl (by rw [ex4_9]; rfl) (by decide) rfl (fun ls hl => ?_)
        refine lv_goto (tgt := 9) hx hb dX12_badOf_134 (by decide) ?_
        exact hk9 G w2 x4_9 H locs ls (lv_sub hl [1, 2, 3, 0] rfl) hI hf
      · have hf := ite_f c8 hf
        refine lv_aload_n hx hb dX12_badOf_38 rfl (lv_at hl 0 rfl) ?_
        refine lv_iload hx hb dX12_badOf_39 (lv_at hl 4 rfl) ?_
        obtain ⟨v10, h11, hf⟩ := bndO_i hf
        refine s_afI hI (s_runV (rest := []) (As := [.int x5]) (np := 1) E hK hI (s_B hcl hBs hI) hcl.2 (mE hE eM_0) rfl (c_X12_isHeard l D K sh ad cy X B hcl hE G L O x5 h11) kyX12_isHeard u6_64 u6_66 up_57 (by decide) rfl hl.1 rfl (Nat.le_of_ble_eq_true rfl) ⟨Nat.zero_le _, Nat.zero_le _⟩ dX12_badOf_41) (fun H locs hI => ?_)
        refine lv_if_ne (tgt := 50) hx hb dX12_badOf_44 (by decide) (fun c12 => ?_) (fun c12 => ?_)
        · have hf := ite_f c12 hf
          refine lv_iconst (v := 0) hx hb dX12_badOf_50 (by decide) ?_
          refine lv_istore (lv' := [(6, .int 0), (0, .ref (ad 0)), (1, .int x1), (2, .long w2), (4, .int x4), (5, .int x5)]) hx hb dX12_badOf_51 hl (by decide) rfl (fun ls hl => ?_)
          exact B53 _ _ hk9 ih fuel G w2 x4 x5 0 H locs ls (lv_sub hl [1, 2, 3, 4, 5, 0] rfl) hI hf
        · have hf := ite_t c12 hf
          refine lv_goto (tgt := 125) hx hb dX12_badOf_47 (by decide) ?_
          obtain ⟨x5_28, ex5_28, hf⟩ := bnd_i hf
          refine lv_iinc (v := x5_28) (lv' := [(5, .int x5_28), (0, .ref (ad 0)), (1, .int x1), (2, .long w2), (4, .int x4)]) hx hb dX12_badOf_125 hl (k := 4) rfl (by rw [ex5_28]; rfl) (by decide) rfl (fun ls hl => ?_)
          refine lv_goto (tgt := 32) hx hb dX12_badOf_128 (by decide) ?_
          exact ih G w2 x4 x5_28 H locs ls (lv_sub hl [1, 2, 3, 4, 0] rfl) hI hf
  have B9 : ∀   (n : Nat) (G : Mem) (w2 : Int64) (x4 : Int32) (H : Heap) (locs : List Loc) (ls : Array Slot), lv_has ls 7 [(0, .ref (ad 0)), (1, .int x1), (2, .long w2), (4, .int x4)] → IS D K sh ad cy X (AS K ad X) s.heap H locs G L O → iter (q_X12_badOf_9 x1) n (G, w2, x4) = some (Gz, vz) → W p l e (rmX 5 0 0) s m args below meth c H locs 0 0 (MQ below (QL (AS K ad X) (PH D K sh ad cy X Gz L O) vz) args s 0 0 (AS K ad X)) (F0 m 9 ls []) := by
    intro n
    induction n with
    | zero => intro G w2 x4 H locs ls hl hI hf; exact iter_0 hf
    | succ n ih =>
      intro G w2 x4 H locs ls hl hI hf
      have hf : q_X12_badOf_9 x1 (iter (q_X12_badOf_9 x1) n) (G, w2, x4) = some (Gz, vz) := hf
      rw [q_X12_badOf_9] at hf
      refine lv_iload hx hb dX12_badOf_9 (lv_at hl 3 rfl) ?_
      refine lv_aload_n hx hb dX12_badOf_11 rfl (lv_at hl 0 rfl) ?_
      refine s_get (v := .int (G 0 1)) hx hb hu inU12 hown hK hI (mE hE eM_0) rfl 1 (by decide) u4_189 (fun _ h => h) rfl rfl dX12_badOf_12 ?_
      refine lv_icmp_ge (tgt := 137) hx hb dX12_badOf_15 (by decide) (fun c3 => ?_) (fun c3 => ?_)
      · have hf := ite_t c3 hf
        refine lv_lload_n hx hb dX12_badOf_137 rfl (lv_at hl 2 rfl) ?_
        cases hf
        exact s_lret hx hb hr hI.2.2 hI.1 hlocks dX12_badOf_138
      · have hf := ite_f c3 hf
        refine lv_aload_n hx hb dX12_badOf_18 rfl (lv_at hl 0 rfl) ?_
        refine lv_iload_n hx hb dX12_badOf_19 rfl (lv_at hl 1 rfl) ?_
        refine lv_iload hx hb dX12_badOf_20 (lv_at hl 3 rfl) ?_
        obtain ⟨G4, h5, hf⟩ := bndO_i hf
        refine s_afV hI (s_runV (rest := []) (As := [.int x1, .int x4]) (np := 2) E hK hI (s_B hcl hBs hI) hcl.2 (mE hE eM_0) rfl (c_X12_go l D K sh ad cy X B hcl hE G L O x1 x4 h5) kyX12_go u6_13 u6_15 up_47 (by decide) rfl hl.1 rfl (Nat.le_of_ble_eq_true rfl) ⟨Nat.zero_le _, Nat.zero_le _⟩ dX12_badOf_22) (fun H locs hI => ?_)
        refine lv_aload_n hx hb dX12_badOf_25 rfl (lv_at hl 0 rfl) ?_
        obtain ⟨G6, h7, hf⟩ := bndO_i hf
        refine s_afV hI (s_runV (rest := []) (As := []) (np := 0) E hK hI (s_B hcl hBs hI) hcl.2 (mE hE eM_0) rfl (c_X12_lookThin l D K sh ad cy X B hcl hE G4 L O  h7) kyX12_lookThin u6_56 u6_58 up_55 (by decide) rfl hl.1 rfl (Nat.le_of_ble_eq_true rfl) ⟨Nat.zero_le _, Nat.zero_le _⟩ dX12_badOf_26) (fun H locs hI => ?_)
        refine lv_iconst (v := 0) hx hb dX12_badOf_29 (by decide) ?_
        refine lv_istore (lv' := [(5, .int 0), (0, .ref (ad 0)), (1, .int x1), (2, .long w2), (4, .int x4)]) hx hb dX12_badOf_30 hl (by decide) rfl (fun ls hl => ?_)
        exact B32 _ ih fuel G6 w2 x4 0 H locs ls (lv_sub hl [1, 2, 3, 4, 0] rfl) hI hf
  rw [f_X12_badOf] at hf
  refine lv_aload_n hx hb dX12_badOf_0 rfl (lv_at hl 0 rfl) ?_
  obtain ⟨G1, h2, hf⟩ := bndO_i hf
  refine s_afV hI (s_runV (rest := []) (As := []) (np := 0) E hK hI (s_B hcl hBs hI) hcl.2 (mE hE eM_0) rfl (c_X12_beginThin l D K sh ad cy X B hcl hE G L O  h2) kyX12_beginThin u6_52 u6_54 up_54 (by decide) rfl hl.1 rfl (Nat.le_of_ble_eq_true rfl) ⟨Nat.zero_le _, Nat.zero_le _⟩ dX12_badOf_1) (fun H locs hI => ?_)
  refine lv_lconst (v := 0) hx hb dX12_badOf_4 (by decide) ?_
  refine lv_lstore_n (lv' := [(2, .long 0), (0, .ref (ad 0)), (1, .int x1)]) hx hb dX12_badOf_5 rfl hl (by decide) rfl (fun ls hl => ?_)
  refine lv_iconst (v := 0) hx hb dX12_badOf_6 (by decide) ?_
  refine lv_istore (lv' := [(4, .int 0), (2, .long 0), (0, .ref (ad 0)), (1, .int x1)]) hx hb dX12_badOf_7 hl (by decide) rfl (fun ls hl => ?_)
  exact B9   fuel G1 0 0 H locs ls (lv_sub hl [2, 3, 1, 0] rfl) hI hf
noncomputable def f_X12_bad (G : Mem) (x1 : Int32) : Option (Mem × Int64) := (if (f_X12_isWay x1) = 0 then some (G, (-4611686018427387904)) else bndO (f_X12_isMissing G x1) (fun v2 => (if v2 = 0 then bndO (f_X12_begin G) (fun G5 => bndP (f_X12_badOf G5 x1) (fun G7 v8 => some (G7, v8))) else some (G, (-4611686018427387904)))))
theorem kyX12_bad : Ky yX12_bad cX12_bad 2 (some FieldType.long) 1 := ⟨u6_71, u1_15, by decide, by decide, by decide, by decide +kernel⟩
set_option maxHeartbeats 4000000 in
set_option maxRecDepth 100000 in
theorem c_X12_bad (l : Launch) (D : va_G) (K : List Nat) (sh : Nat → Ent) (ad : Nat → Nat) (cy : Nat → ClassId) (X : va_W) (B : State → Prop) (hcl : Bcl (AS K ad X) B) (hE : ∀ q ∈ shM, q.1 ∈ K ∧ sh q.1 = q.2) (G : Mem) (L : MemL) (O : MemO) (x1 : Int32) {Gz : Mem} {vz : Int64} (hf : f_X12_bad G x1 = some (Gz, vz)) : Met l yX12_bad (wsU yX12_bad cX12_bad 2 (some FieldType.long)) (rmX 6 0 0) (va_Pc [.ref (ad 0), .int x1] (PS D K sh ad cy X B G L O)) (QL (AS K ad X) (PH D K sh ad cy X Gz L O) vz) 0 0 (AS K ad X) := by
  refine s_met (by decide) (Nat.le_of_ble_eq_true rfl) ?_
  intro p e s m args below meth c ls H locs E hK hBs hnm hI hl
  have hl : lv_has ls 2 [(0, .ref (ad 0)), (1, .int x1)] := hl
  have E : Cx p s m args meth c RX12 cX12_bad 2 (some FieldType.long) := E
  obtain ⟨hx, hb, hr, hml, hown, hu, hlocks⟩ := id E
  rw [f_X12_bad] at hf
  refine lv_aload_n hx hb dX12_bad_0 rfl (lv_at hl 0 rfl) ?_
  refine lv_iload_n hx hb dX12_bad_1 rfl (lv_at hl 1 rfl) ?_
  refine s_afI hI (s_runV (rest := []) (As := [.int x1]) (np := 1) E hK hI (s_B hcl hBs hI) hcl.2 (mE hE eM_0) rfl (c_X12_isWay l D K sh ad cy X B hcl hE G L O x1 rfl) kyX12_isWay u5_237 u5_239 up_43 (by decide) rfl hl.1 rfl (Nat.le_of_ble_eq_true rfl) ⟨Nat.zero_le _, Nat.zero_le _⟩ dX12_bad_2) (fun H locs hI => ?_)
  refine lv_if_eq (tgt := 16) hx hb dX12_bad_5 (by decide) (fun c1 => ?_) (fun c1 => ?_)
  · have hf := ite_t c1 hf
    refine lv_ldc2 (v := (-4611686018427387904)) hx hb hown (hu _ u6_72) dX12_bad_16 ?_
    cases hf
    exact s_lret hx hb hr hI.2.2 hI.1 hlocks dX12_bad_19
  · have hf := ite_f c1 hf
    refine lv_aload_n hx hb dX12_bad_8 rfl (lv_at hl 0 rfl) ?_
    refine lv_iload_n hx hb dX12_bad_9 rfl (lv_at hl 1 rfl) ?_
    obtain ⟨v2, h3, hf⟩ := bndO_i hf
    refine s_afI hI (s_runV (rest := []) (As := [.int x1]) (np := 1) E hK hI (s_B hcl hBs hI) hcl.2 (mE hE eM_0) rfl (c_X12_isMissing l D K sh ad cy X B hcl hE G L O x1 h3) kyX12_isMissing u6_5 u6_7 up_45 (by decide) rfl hl.1 rfl (Nat.le_of_ble_eq_true rfl) ⟨Nat.zero_le _, Nat.zero_le _⟩ dX12_bad_10) (fun H locs hI => ?_)
    refine lv_if_eq (tgt := 20) hx hb dX12_bad_13 (by decide) (fun c4 => ?_) (fun c4 => ?_)
    · have hf := ite_t c4 hf
      refine lv_aload_n hx hb dX12_bad_20 rfl (lv_at hl 0 rfl) ?_
      obtain ⟨G5, h6, hf⟩ := bndO_i hf
      refine s_afV hI (s_runV (rest := []) (As := []) (np := 0) E hK hI (s_B hcl hBs hI) hcl.2 (mE hE eM_0) rfl (c_X12_begin l D K sh ad cy X B hcl hE G L O  h6) kyX12_begin u6_9 u6_11 up_46 (by decide) rfl hl.1 rfl (Nat.le_of_ble_eq_true rfl) ⟨Nat.zero_le _, Nat.zero_le _⟩ dX12_bad_21) (fun H locs hI => ?_)
      refine lv_aload_n hx hb dX12_bad_24 rfl (lv_at hl 0 rfl) ?_
      refine lv_iload_n hx hb dX12_bad_25 rfl (lv_at hl 1 rfl) ?_
      obtain ⟨G7, v8, h9, hf⟩ := bndP_i hf
      refine s_afL hI (s_runV (rest := []) (As := [.int x1]) (np := 1) E hK hI (s_B hcl hBs hI) hcl.2 (mE hE eM_0) rfl (c_X12_badOf l D K sh ad cy X B hcl hE G5 L O x1 h9) kyX12_badOf u6_73 u6_75 up_58 (by decide) rfl hl.1 rfl (Nat.le_of_ble_eq_true rfl) ⟨Nat.zero_le _, Nat.zero_le _⟩ dX12_bad_26) (fun H locs hI => ?_)
      cases hf
      exact s_lret hx hb hr hI.2.2 hI.1 hlocks dX12_bad_29
    · have hf := ite_f c4 hf
      refine lv_ldc2 (v := (-4611686018427387904)) hx hb hown (hu _ u6_72) dX12_bad_16 ?_
      cases hf
      exact s_lret hx hb hr hI.2.2 hI.1 hlocks dX12_bad_19
noncomputable def q_X12_breaths_66 (x1 : Int32) (x2 : Int32)  (rec : (Mem × Int32 × Int32) → Option (Mem × Int32)) : (Mem × Int32 × Int32) → Option (Mem × Int32) := fun (G, x3, x4) => (if (G 0 7) ≤ x4 then some (G, x3) else (if x2 = (-1) then chk (inB x4 10) (bnd (x3 + (G 20 x4.toNatClampNeg)) (fun x3_12 => bnd (x4 + 1) (fun x4_13 => rec (G, x3_12, x4_13)))) else (if x4 = x2 then chk (inB x4 10) (bnd (x3 + (G 20 x4.toNatClampNeg)) (fun x3_17 => bnd (x4 + 1) (fun x4_18 => rec (G, x3_17, x4_18)))) else bnd (x4 + 1) (fun x4_15 => rec (G, x3, x4_15)))))
noncomputable def q_X12_breaths_41 (x1 : Int32) (x2 : Int32)  (rec : (Mem × Int32) → Option (Mem × Int32)) : (Mem × Int32) → Option (Mem × Int32) := fun (G, x3) => (if (G 0 1) ≤ x3 then iter (q_X12_breaths_66 x1 x2) fuel (G, 0, 0) else bndO (f_X12_go G x1 x3) (fun G19 => bnd (x3 + 1) (fun x3_21 => rec (G19, x3_21))))
noncomputable def j_X12_breaths_24 (x1 : Int32) (x2 : Int32)  (G : Mem) : Option (Mem × Int32) := bndO (f_X12_isMissing G x1) (fun v3 => (if v3 = 0 then bndO (f_X12_begin G) (fun G6 => iter (q_X12_breaths_41 x1 x2) fuel (G6, 0)) else some (G, (-11))))
noncomputable def f_X12_breaths (G : Mem) (x1 : Int32) (x2 : Int32) : Option (Mem × Int32) := (if (f_X12_isWay x1) = 0 then some (G, (-2)) else (if x2 = (-1) then j_X12_breaths_24 x1 x2 G else (if (f_X12_isSinger G x2) = 0 then some (G, (-2)) else j_X12_breaths_24 x1 x2 G)))
theorem kyX12_breaths : Ky yX12_breaths cX12_breaths 5 (some FieldType.int) 2 := ⟨u6_83, u1_15, by decide, by decide, by decide, by decide +kernel⟩
set_option maxHeartbeats 4000000 in
set_option maxRecDepth 100000 in
theorem c_X12_breaths (l : Launch) (D : va_G) (K : List Nat) (sh : Nat → Ent) (ad : Nat → Nat) (cy : Nat → ClassId) (X : va_W) (B : State → Prop) (hcl : Bcl (AS K ad X) B) (hE : ∀ q ∈ shM, q.1 ∈ K ∧ sh q.1 = q.2) (G : Mem) (L : MemL) (O : MemO) (x1 : Int32) (x2 : Int32) {Gz : Mem} {vz : Int32} (hf : f_X12_breaths G x1 x2 = some (Gz, vz)) : Met l yX12_breaths (wsU yX12_breaths cX12_breaths 5 (some FieldType.int)) (rmX 5 0 0) (va_Pc [.ref (ad 0), .int x1, .int x2] (PS D K sh ad cy X B G L O)) (QI (AS K ad X) (PH D K sh ad cy X Gz L O) vz) 0 0 (AS K ad X) := by
  refine s_met (by decide) (Nat.le_of_ble_eq_true rfl) ?_
  intro p e s m args below meth c ls H locs E hK hBs hnm hI hl
  have hl : lv_has ls 5 [(0, .ref (ad 0)), (1, .int x1), (2, .int x2)] := hl
  have E : Cx p s m args meth c RX12 cX12_breaths 5 (some FieldType.int) := E
  obtain ⟨hx, hb, hr, hml, hown, hu, hlocks⟩ := id E
  have B66 : ∀   (n : Nat) (G : Mem) (x3 : Int32) (x4 : Int32) (H : Heap) (locs : List Loc) (ls : Array Slot), lv_has ls 5 [(0, .ref (ad 0)), (2, .int x2), (3, .int x3), (4, .int x4)] → IS D K sh ad cy X (AS K ad X) s.heap H locs G L O → iter (q_X12_breaths_66 x1 x2) n (G, x3, x4) = some (Gz, vz) → W p l e (rmX 5 0 0) s m args below meth c H locs 0 0 (MQ below (QI (AS K ad X) (PH D K sh ad cy X Gz L O) vz) args s 0 0 (AS K ad X)) (F0 m 66 ls []) := by
    intro n
    induction n with
    | zero => intro G x3 x4 H locs ls hl hI hf; exact iter_0 hf
    | succ n ih =>
      intro G x3 x4 H locs ls hl hI hf
      have hf : q_X12_breaths_66 x1 x2 (iter (q_X12_breaths_66 x1 x2) n) (G, x3, x4) = some (Gz, vz) := hf
      rw [q_X12_breaths_66] at hf
      refine lv_iload hx hb dX12_breaths_66 (lv_at hl 3 rfl) ?_
      refine lv_aload_n hx hb dX12_breaths_68 rfl (lv_at hl 0 rfl) ?_
      refine s_get (v := .int (G 0 7)) hx hb hu inU12 hown hK hI (mE hE eM_0) rfl 7 (by decide) u4_195 (fun _ h => h) rfl rfl dX12_breaths_69 ?_
      refine lv_icmp_ge (tgt := 102) hx hb dX12_breaths_72 (by decide) (fun c9 => ?_) (fun c9 => ?_)
      · have hf := ite_t c9 hf
        refine lv_iload_n hx hb dX12_breaths_102 rfl (lv_at hl 2 rfl) ?_
        cases hf
        exact s_iret hx hb hr hI.2.2 hI.1 hlocks dX12_breaths_103
      · have hf := ite_f c9 hf
        refine lv_iload_n hx hb dX12_breaths_75 rfl (lv_at hl 1 rfl) ?_
        refine lv_iconst (v := (-1)) hx hb dX12_breaths_76 (by decide) ?_
        refine lv_icmp_eq (tgt := 86) hx hb dX12_breaths_77 (by decide) (fun c10 => ?_) (fun c10 => ?_)
        · have hf := ite_t c10 hf
          refine lv_iload_n hx hb dX12_breaths_86 rfl (lv_at hl 2 rfl) ?_
          refine lv_aload_n hx hb dX12_breaths_87 rfl (lv_at hl 0 rfl) ?_
          refine s_get (v := .ref (ad 20)) hx hb hu inU12 hown hK hI (mE hE eM_0) rfl 33 (by decide) u4_221 (fun _ h => h) rfl rfl dX12_breaths_88 ?_
          refine lv_iload hx hb dX12_breaths_91 (lv_at hl 3 rfl) ?_
          obtain ⟨h11, hf⟩ := chk_i hf
          refine s_ild hx hb hK hI (mE hE eM_20) (inB_i h11) dX12_breaths_93 ?_
          refine lv_iadd hx hb dX12_breaths_94 ?_
          obtain ⟨x3_12, ex3_12, hf⟩ := bnd_i hf
          refine s_nmI ex3_12 ?_
          refine lv_istore_n (lv' := [(3, .int x3_12), (0, .ref (ad 0)), (2, .int x2), (4, .int x4)]) hx hb dX12_breaths_95 rfl hl (by decide) rfl (fun ls hl => ?_)
          obtain ⟨x4_13, ex4_13, hf⟩ := bnd_i hf
          refine lv_iinc (v := x4_13) (lv' := [(4, .int x4_13), (3, .int x3_12), (0, .ref (ad 0)), (2, .int x2)]) hx hb dX12_breaths_96 hl (k := 3) rfl (by rw [ex4_13]; rfl) (by decide) rfl (fun ls hl => ?_)
          refine lv_goto (tgt := 66) hx hb dX12_breaths_99 (by decide) ?_
          exact ih G x3_12 x4_13 H locs ls (lv_sub hl [2, 3, 1, 0] rfl) hI hf
        · have hf := ite_f c10 hf
          refine lv_iload hx hb dX12_breaths_80 (lv_at hl 3 rfl) ?_
          refine lv_iload_n hx hb dX12_breaths_82 rfl (lv_at hl 1 rfl) ?_
          refine lv_icmp_ne (tgt := 96) hx hb dX12_breaths_83 (by decide) (fun c14 => ?_) (fun c14 => ?_)
          · have hf := ite_f c14 hf
            obtain ⟨x4_15, ex4_15, hf⟩ := bnd_i hf
            refine lv_iinc (v := x4_15) (lv' := [(4, .int x4_15), (0, .ref (ad 0)), (2, .int x2), (3, .int x3)]) hx hb dX12_breaths_96 hl (k := 3) rfl (by rw [ex4_15]; rfl) (by decide) rfl (fun ls hl => ?_)
            refine lv_goto (tgt := 66) hx hb dX12_breaths_99 (by decide) ?_
            exact ih G x3 x4_15 H locs ls (lv_sub hl [1, 2, 3, 0] rfl) hI hf
          · have hf := ite_t c14 hf
            refine lv_iload_n hx hb dX12_breaths_86 rfl (lv_at hl 2 rfl) ?_
            refine lv_aload_n hx hb dX12_breaths_87 rfl (lv_at hl 0 rfl) ?_
            refine s_get (v := .ref (ad 20)) hx hb hu inU12 hown hK hI (mE hE eM_0) rfl 33 (by decide) u4_221 (fun _ h => h) rfl rfl dX12_breaths_88 ?_
            refine lv_iload hx hb dX12_breaths_91 (lv_at hl 3 rfl) ?_
            obtain ⟨h16, hf⟩ := chk_i hf
            refine s_ild hx hb hK hI (mE hE eM_20) (inB_i h16) dX12_breaths_93 ?_
            refine lv_iadd hx hb dX12_breaths_94 ?_
            obtain ⟨x3_17, ex3_17, hf⟩ := bnd_i hf
            refine s_nmI ex3_17 ?_
            refine lv_istore_n (lv' := [(3, .int x3_17), (0, .ref (ad 0)), (2, .int x2), (4, .int x4)]) hx hb dX12_breaths_95 rfl hl (by decide) rfl (fun ls hl => ?_)
            obtain ⟨x4_18, ex4_18, hf⟩ := bnd_i hf
            refine lv_iinc (v := x4_18) (lv' := [(4, .int x4_18), (3, .int x3_17), (0, .ref (ad 0)), (2, .int x2)]) hx hb dX12_breaths_96 hl (k := 3) rfl (by rw [ex4_18]; rfl) (by decide) rfl (fun ls hl => ?_)
            refine lv_goto (tgt := 66) hx hb dX12_breaths_99 (by decide) ?_
            exact ih G x3_17 x4_18 H locs ls (lv_sub hl [2, 3, 1, 0] rfl) hI hf
  have B41 : ∀   (n : Nat) (G : Mem) (x3 : Int32) (H : Heap) (locs : List Loc) (ls : Array Slot), lv_has ls 5 [(0, .ref (ad 0)), (1, .int x1), (2, .int x2), (3, .int x3)] → IS D K sh ad cy X (AS K ad X) s.heap H locs G L O → iter (q_X12_breaths_41 x1 x2) n (G, x3) = some (Gz, vz) → W p l e (rmX 5 0 0) s m args below meth c H locs 0 0 (MQ below (QI (AS K ad X) (PH D K sh ad cy X Gz L O) vz) args s 0 0 (AS K ad X)) (F0 m 41 ls []) := by
    intro n
    induction n with
    | zero => intro G x3 H locs ls hl hI hf; exact iter_0 hf
    | succ n ih =>
      intro G x3 H locs ls hl hI hf
      have hf : q_X12_breaths_41 x1 x2 (iter (q_X12_breaths_41 x1 x2) n) (G, x3) = some (Gz, vz) := hf
      rw [q_X12_breaths_41] at hf
      refine lv_iload_n hx hb dX12_breaths_41 rfl (lv_at hl 3 rfl) ?_
      refine lv_aload_n hx hb dX12_breaths_42 rfl (lv_at hl 0 rfl) ?_
      refine s_get (v := .int (G 0 1)) hx hb hu inU12 hown hK hI (mE hE eM_0) rfl 1 (by decide) u4_189 (fun _ h => h) rfl rfl dX12_breaths_43 ?_
      refine lv_icmp_ge (tgt := 61) hx hb dX12_breaths_46 (by decide) (fun c8 => ?_) (fun c8 => ?_)
      · have hf := ite_t c8 hf
        refine lv_iconst (v := 0) hx hb dX12_breaths_61 (by decide) ?_
        refine lv_istore_n (lv' := [(3, .int 0), (0, .ref (ad 0)), (1, .int x1), (2, .int x2)]) hx hb dX12_breaths_62 rfl hl (by decide) rfl (fun ls hl => ?_)
        refine lv_iconst (v := 0) hx hb dX12_breaths_63 (by decide) ?_
        refine lv_istore (lv' := [(4, .int 0), (3, .int 0), (0, .ref (ad 0)), (1, .int x1), (2, .int x2)]) hx hb dX12_breaths_64 hl (by decide) rfl (fun ls hl => ?_)
        exact B66   fuel G 0 0 H locs ls (lv_sub hl [2, 4, 1, 0] rfl) hI hf
      · have hf := ite_f c8 hf
        refine lv_aload_n hx hb dX12_breaths_49 rfl (lv_at hl 0 rfl) ?_
        refine lv_iload_n hx hb dX12_breaths_50 rfl (lv_at hl 1 rfl) ?_
        refine lv_iload_n hx hb dX12_breaths_51 rfl (lv_at hl 3 rfl) ?_
        obtain ⟨G19, h20, hf⟩ := bndO_i hf
        refine s_afV hI (s_runV (rest := []) (As := [.int x1, .int x3]) (np := 2) E hK hI (s_B hcl hBs hI) hcl.2 (mE hE eM_0) rfl (c_X12_go l D K sh ad cy X B hcl hE G L O x1 x3 h20) kyX12_go u6_13 u6_15 up_47 (by decide) rfl hl.1 rfl (Nat.le_of_ble_eq_true rfl) ⟨Nat.zero_le _, Nat.zero_le _⟩ dX12_breaths_52) (fun H locs hI => ?_)
        obtain ⟨x3_21, ex3_21, hf⟩ := bnd_i hf
        refine lv_iinc (v := x3_21) (lv' := [(3, .int x3_21), (0, .ref (ad 0)), (1, .int x1), (2, .int x2)]) hx hb dX12_breaths_55 hl (k := 3) rfl (by rw [ex3_21]; rfl) (by decide) rfl (fun ls hl => ?_)
        refine lv_goto (tgt := 41) hx hb dX12_breaths_58 (by decide) ?_
        exact ih G19 x3_21 H locs ls (lv_sub hl [1, 2, 3, 0] rfl) hI hf
  have B24 : ∀    (G : Mem) (H : Heap) (locs : List Loc) (ls : Array Slot), lv_has ls 5 [(0, .ref (ad 0)), (1, .int x1), (2, .int x2)] → IS D K sh ad cy X (AS K ad X) s.heap H locs G L O → j_X12_breaths_24 x1 x2 G = some (Gz, vz) → W p l e (rmX 5 0 0) s m args below meth c H locs 0 0 (MQ below (QI (AS K ad X) (PH D K sh ad cy X Gz L O) vz) args s 0 0 (AS K ad X)) (F0 m 24 ls []) := by
    intro  G H locs ls hl hI hf
    rw [j_X12_breaths_24] at hf
    refine lv_aload_n hx hb dX12_breaths_24 rfl (lv_at hl 0 rfl) ?_
    refine lv_iload_n hx hb dX12_breaths_25 rfl (lv_at hl 1 rfl) ?_
    obtain ⟨v3, h4, hf⟩ := bndO_i hf
    refine s_afI hI (s_runV (rest := []) (As := [.int x1]) (np := 1) E hK hI (s_B hcl hBs hI) hcl.2 (mE hE eM_0) rfl (c_X12_isMissing l D K sh ad cy X B hcl hE G L O x1 h4) kyX12_isMissing u6_5 u6_7 up_45 (by decide) rfl hl.1 rfl (Nat.le_of_ble_eq_true rfl) ⟨Nat.zero_le _, Nat.zero_le _⟩ dX12_breaths_26) (fun H locs hI => ?_)
    refine lv_if_eq (tgt := 35) hx hb dX12_breaths_29 (by decide) (fun c5 => ?_) (fun c5 => ?_)
    · have hf := ite_t c5 hf
      refine lv_aload_n hx hb dX12_breaths_35 rfl (lv_at hl 0 rfl) ?_
      obtain ⟨G6, h7, hf⟩ := bndO_i hf
      refine s_afV hI (s_runV (rest := []) (As := []) (np := 0) E hK hI (s_B hcl hBs hI) hcl.2 (mE hE eM_0) rfl (c_X12_begin l D K sh ad cy X B hcl hE G L O  h7) kyX12_begin u6_9 u6_11 up_46 (by decide) rfl hl.1 rfl (Nat.le_of_ble_eq_true rfl) ⟨Nat.zero_le _, Nat.zero_le _⟩ dX12_breaths_36) (fun H locs hI => ?_)
      refine lv_iconst (v := 0) hx hb dX12_breaths_39 (by decide) ?_
      refine lv_istore_n (lv' := [(3, .int 0), (0, .ref (ad 0)), (1, .int x1), (2, .int x2)]) hx hb dX12_breaths_40 rfl hl (by decide) rfl (fun ls hl => ?_)
      exact B41   fuel G6 0 H locs ls (lv_sub hl [1, 2, 3, 0] rfl) hI hf
    · have hf := ite_f c5 hf
      refine lv_bipush (v := (-11)) hx hb dX12_breaths_32 (by decide) ?_
      cases hf
      exact s_iret hx hb hr hI.2.2 hI.1 hlocks dX12_breaths_34
  rw [f_X12_breaths] at hf
  refine lv_aload_n hx hb dX12_breaths_0 rfl (lv_at hl 0 rfl) ?_
  refine lv_iload_n hx hb dX12_breaths_1 rfl (lv_at hl 1 rfl) ?_
  refine s_afI hI (s_runV (rest := []) (As := [.int x1]) (np := 1) E hK hI (s_B hcl hBs hI) hcl.2 (mE hE eM_0) rfl (c_X12_isWay l D K sh ad cy X B hcl hE G L O x1 rfl) kyX12_isWay u5_237 u5_239 up_43 (by decide) rfl hl.1 rfl (Nat.le_of_ble_eq_true rfl) ⟨Nat.zero_le _, Nat.zero_le _⟩ dX12_breaths_2) (fun H locs hI => ?_)
  refine lv_if_eq (tgt := 21) hx hb dX12_breaths_5 (by decide) (fun c1 => ?_) (fun c1 => ?_)
  · have hf := ite_t c1 hf
    refine lv_bipush (v := (-2)) hx hb dX12_breaths_21 (by decide) ?_
    cases hf
    exact s_iret hx hb hr hI.2.2 hI.1 hlocks dX12_breaths_23
  · have hf := ite_f c1 hf
    refine lv_iload_n hx hb dX12_breaths_8 rfl (lv_at hl 2 rfl) ?_
    refine lv_iconst (v := (-1)) hx hb dX12_breaths_9 (by decide) ?_
    refine lv_icmp_eq (tgt := 24) hx hb dX12_breaths_10 (by decide) (fun c2 => ?_) (fun c2 => ?_)
    · have hf := ite_t c2 hf
      exact B24    G H locs ls (lv_sub hl [0, 1, 2] rfl) hI hf
    · have hf := ite_f c2 hf
      refine lv_aload_n hx hb dX12_breaths_13 rfl (lv_at hl 0 rfl) ?_
      refine lv_iload_n hx hb dX12_breaths_14 rfl (lv_at hl 2 rfl) ?_
      refine s_afI hI (s_runV (rest := []) (As := [.int x2]) (np := 1) E hK hI (s_B hcl hBs hI) hcl.2 (mE hE eM_0) rfl (c_X12_isSinger l D K sh ad cy X B hcl hE G L O x2 rfl) kyX12_isSinger u5_139 u5_141 up_25 (by decide) rfl hl.1 rfl (Nat.le_of_ble_eq_true rfl) ⟨Nat.zero_le _, Nat.zero_le _⟩ dX12_breaths_15) (fun H locs hI => ?_)
      refine lv_if_ne (tgt := 24) hx hb dX12_breaths_18 (by decide) (fun c22 => ?_) (fun c22 => ?_)
      · have hf := ite_f c22 hf
        exact B24    G H locs ls (lv_sub hl [0, 1, 2] rfl) hI hf
      · have hf := ite_t c22 hf
        refine lv_bipush (v := (-2)) hx hb dX12_breaths_21 (by decide) ?_
        cases hf
        exact s_iret hx hb hr hI.2.2 hI.1 hlocks dX12_breaths_23
noncomputable def f_X12_fewest  (x1 : Int32) (x2 : Int32) (x3 : Int32) : Option (Int32) := (if (f_X12_in x1 1 40) = 0 then some (-2) else (if (f_X12_in x2 1 18) = 0 then some (-2) else (if (f_X12_in x3 0 99) = 0 then some (-2) else chk (neB x1) (some ((((x3 * (x1 + x2)) + x1) - 1) / x1)))))
theorem kyX12_fewest : Ky yX12_fewest cX12_fewest 4 (some FieldType.int) 3 := ⟨u6_87, u1_15, by decide, by decide, by decide, by decide +kernel⟩
set_option maxHeartbeats 4000000 in
set_option maxRecDepth 100000 in
theorem c_X12_fewest (l : Launch) (D : va_G) (K : List Nat) (sh : Nat → Ent) (ad : Nat → Nat) (cy : Nat → ClassId) (X : va_W) (B : State → Prop) (hcl : Bcl (AS K ad X) B) (hE : ∀ q ∈ shM, q.1 ∈ K ∧ sh q.1 = q.2) (G : Mem) (L : MemL) (O : MemO) (x1 : Int32) (x2 : Int32) (x3 : Int32)  {vz : Int32} (hf : f_X12_fewest x1 x2 x3 = some vz) : Met l yX12_fewest (wsU yX12_fewest cX12_fewest 4 (some FieldType.int)) (rmX 2 0 0) (va_Pc [.ref (ad 0), .int x1, .int x2, .int x3] (PS D K sh ad cy X B G L O)) (QI (AS K ad X) (PH D K sh ad cy X G L O) vz) 0 0 (AS K ad X) := by
  refine s_met (by decide) (Nat.le_of_ble_eq_true rfl) ?_
  intro p e s m args below meth c ls H locs E hK hBs hnm hI hl
  have hl : lv_has ls 4 [(0, .ref (ad 0)), (1, .int x1), (2, .int x2), (3, .int x3)] := hl
  have E : Cx p s m args meth c RX12 cX12_fewest 4 (some FieldType.int) := E
  obtain ⟨hx, hb, hr, hml, hown, hu, hlocks⟩ := id E
  rw [f_X12_fewest] at hf
  refine lv_iload_n hx hb dX12_fewest_0 rfl (lv_at hl 1 rfl) ?_
  refine lv_iconst (v := 1) hx hb dX12_fewest_1 (by decide) ?_
  refine lv_bipush (v := 40) hx hb dX12_fewest_2 (by decide) ?_
  refine s_cSP (np := 3) (rest := []) E (c_X12_in l x1 1 40 rfl) kyX12_in u5_128 u5_129 (by decide) rfl hl.1 rfl (Nat.le_of_ble_eq_true rfl) ⟨Nat.zero_le _, Nat.zero_le _⟩ dX12_fewest_4 ?_
  refine lv_if_eq (tgt := 44) hx hb dX12_fewest_7 (by decide) (fun c1 => ?_) (fun c1 => ?_)
  · have hf := ite_t c1 hf
    refine lv_bipush (v := (-2)) hx hb dX12_fewest_44 (by decide) ?_
    cases hf
    exact s_iret hx hb hr hI.2.2 hI.1 hlocks dX12_fewest_46
  · have hf := ite_f c1 hf
    refine lv_iload_n hx hb dX12_fewest_10 rfl (lv_at hl 2 rfl) ?_
    refine lv_iconst (v := 1) hx hb dX12_fewest_11 (by decide) ?_
    refine lv_bipush (v := 18) hx hb dX12_fewest_12 (by decide) ?_
    refine s_cSP (np := 3) (rest := []) E (c_X12_in l x2 1 18 rfl) kyX12_in u5_128 u5_129 (by decide) rfl hl.1 rfl (Nat.le_of_ble_eq_true rfl) ⟨Nat.zero_le _, Nat.zero_le _⟩ dX12_fewest_14 ?_
    refine lv_if_eq (tgt := 44) hx hb dX12_fewest_17 (by decide) (fun c2 => ?_) (fun c2 => ?_)
    · have hf := ite_t c2 hf
      refine lv_bipush (v := (-2)) hx hb dX12_fewest_44 (by decide) ?_
      cases hf
      exact s_iret hx hb hr hI.2.2 hI.1 hlocks dX12_fewest_46
    · have hf := ite_f c2 hf
      refine lv_iload_n hx hb dX12_fewest_20 rfl (lv_at hl 3 rfl) ?_
      refine lv_iconst (v := 0) hx hb dX12_fewest_21 (by decide) ?_
      refine lv_bipush (v := 99) hx hb dX12_fewest_22 (by decide) ?_
      refine s_cSP (np := 3) (rest := []) E (c_X12_in l x3 0 99 rfl) kyX12_in u5_128 u5_129 (by decide) rfl hl.1 rfl (Nat.le_of_ble_eq_true rfl) ⟨Nat.zero_le _, Nat.zero_le _⟩ dX12_fewest_24 ?_
      refine lv_if_eq (tgt := 44) hx hb dX12_fewest_27 (by decide) (fun c3 => ?_) (fun c3 => ?_)
      · have hf := ite_t c3 hf
        refine lv_bipush (v := (-2)) hx hb dX12_fewest_44 (by decide) ?_
        cases hf
        exact s_iret hx hb hr hI.2.2 hI.1 hlocks dX12_fewest_46
      · have hf := ite_f c3 hf
        refine lv_iload_n hx hb dX12_fewest_30 rfl (lv_at hl 3 rfl) ?_
        refine lv_iload_n hx hb dX12_fewest_31 rfl (lv_at hl 1 rfl) ?_
        refine lv_iload_n hx hb dX12_fewest_32 rfl (lv_at hl 2 rfl) ?_
        refine lv_iadd hx hb dX12_fewest_33 ?_
        refine lv_imul hx hb dX12_fewest_34 ?_
        refine lv_iload_n hx hb dX12_fewest_35 rfl (lv_at hl 1 rfl) ?_
        refine lv_iadd hx hb dX12_fewest_36 ?_
        refine lv_iconst (v := 1) hx hb dX12_fewest_37 (by decide) ?_
        refine lv_isub hx hb dX12_fewest_38 ?_
        refine lv_iload_n hx hb dX12_fewest_39 rfl (lv_at hl 1 rfl) ?_
        obtain ⟨h4, hf⟩ := chk_i hf
        refine lv_idiv hx hb dX12_fewest_40 (neB_i h4) ?_
        refine lv_goto (tgt := 46) hx hb dX12_fewest_41 (by decide) ?_
        cases hf
        exact s_iret hx hb hr hI.2.2 hI.1 hlocks dX12_fewest_46
noncomputable def q_X12_isLike_2 (G : Mem) (x1 : Int32) (x2 : Int32)  (rec : Int32 → Option (Int32)) : Int32 → Option (Int32) := fun x3 => (if (G 0 7) ≤ x3 then some 1 else chk (inB ((10 * x1) + x3) 2000) (chk (inB ((10 * x2) + x3) 2000) ((if (G 24 ((10 * x1) + x3).toNatClampNeg) = (G 24 ((10 * x2) + x3).toNatClampNeg) then chk (inB ((10 * x1) + x3) 2000) (chk (inB ((10 * x2) + x3) 2000) ((if (G 25 ((10 * x1) + x3).toNatClampNeg) = (G 25 ((10 * x2) + x3).toNatClampNeg) then bnd (x3 + 1) (fun x3_8 => rec x3_8) else some 0))) else some 0))))
noncomputable def f_X12_isLike (G : Mem) (x1 : Int32) (x2 : Int32) : Option (Int32) := iter (q_X12_isLike_2 G x1 x2) fuel 0
theorem kyX12_isLike : Ky yX12_isLike cX12_isLike 4 (some FieldType.boolean) 2 := ⟨u6_95, u1_15, by decide, by decide, by decide, by decide +kernel⟩
set_option maxHeartbeats 4000000 in
set_option maxRecDepth 100000 in
theorem c_X12_isLike (l : Launch) (D : va_G) (K : List Nat) (sh : Nat → Ent) (ad : Nat → Nat) (cy : Nat → ClassId) (X : va_W) (B : State → Prop) (hcl : Bcl (AS K ad X) B) (hE : ∀ q ∈ shM, q.1 ∈ K ∧ sh q.1 = q.2) (G : Mem) (L : MemL) (O : MemO) (x1 : Int32) (x2 : Int32)  {vz : Int32} (hf : f_X12_isLike G x1 x2 = some vz) : Met l yX12_isLike (wsU yX12_isLike cX12_isLike 4 (some FieldType.boolean)) (rmX 1 0 0) (va_Pc [.ref (ad 0), .int x1, .int x2] (PS D K sh ad cy X B G L O)) (QI (AS K ad X) (PH D K sh ad cy X G L O) vz) 0 0 (AS K ad X) := by
  refine s_met (by decide) (Nat.le_of_ble_eq_true rfl) ?_
  intro p e s m args below meth c ls H locs E hK hBs hnm hI hl
  have hl : lv_has ls 4 [(0, .ref (ad 0)), (1, .int x1), (2, .int x2)] := hl
  have E : Cx p s m args meth c RX12 cX12_isLike 4 (some FieldType.boolean) := E
  obtain ⟨hx, hb, hr, hml, hown, hu, hlocks⟩ := id E
  have B2 : ∀   (n : Nat) (x3 : Int32) (H : Heap) (locs : List Loc) (ls : Array Slot), lv_has ls 4 [(0, .ref (ad 0)), (1, .int x1), (2, .int x2), (3, .int x3)] → IS D K sh ad cy X (AS K ad X) s.heap H locs G L O → iter (q_X12_isLike_2 G x1 x2) n x3 = some vz → W p l e (rmX 1 0 0) s m args below meth c H locs 0 0 (MQ below (QI (AS K ad X) (PH D K sh ad cy X G L O) vz) args s 0 0 (AS K ad X)) (F0 m 2 ls []) := by
    intro n
    induction n with
    | zero => intro x3 H locs ls hl hI hf; exact iter_0 hf
    | succ n ih =>
      intro x3 H locs ls hl hI hf
      have hf : q_X12_isLike_2 G x1 x2 (iter (q_X12_isLike_2 G x1 x2) n) x3 = some vz := hf
      rw [q_X12_isLike_2] at hf
      refine lv_iload_n hx hb dX12_isLike_2 rfl (lv_at hl 3 rfl) ?_
      refine lv_aload_n hx hb dX12_isLike_3 rfl (lv_at hl 0 rfl) ?_
      refine s_get (v := .int (G 0 7)) hx hb hu inU12 hown hK hI (mE hE eM_0) rfl 7 (by decide) u4_195 (fun _ h => h) rfl rfl dX12_isLike_4 ?_
      refine lv_icmp_ge (tgt := 68) hx hb dX12_isLike_7 (by decide) (fun c1 => ?_) (fun c1 => ?_)
      · have hf := ite_t c1 hf
        refine lv_iconst (v := 1) hx hb dX12_isLike_68 (by decide) ?_
        cases hf
        exact s_zret rfl hx hb hr hI.2.2 hI.1 hlocks dX12_isLike_69
      · have hf := ite_f c1 hf
        refine lv_aload_n hx hb dX12_isLike_10 rfl (lv_at hl 0 rfl) ?_
        refine s_get (v := .ref (ad 24)) hx hb hu inU12 hown hK hI (mE hE eM_0) rfl 42 (by decide) u4_230 (fun _ h => h) rfl rfl dX12_isLike_11 ?_
        refine lv_bipush (v := 10) hx hb dX12_isLike_14 (by decide) ?_
        refine lv_iload_n hx hb dX12_isLike_16 rfl (lv_at hl 1 rfl) ?_
        refine lv_imul hx hb dX12_isLike_17 ?_
        refine lv_iload_n hx hb dX12_isLike_18 rfl (lv_at hl 3 rfl) ?_
        refine lv_iadd hx hb dX12_isLike_19 ?_
        obtain ⟨h2, hf⟩ := chk_i hf
        refine s_ild hx hb hK hI (mE hE eM_24) (inB_i h2) dX12_isLike_20 ?_
        refine lv_aload_n hx hb dX12_isLike_21 rfl (lv_at hl 0 rfl) ?_
        refine s_get (v := .ref (ad 24)) hx hb hu inU12 hown hK hI (mE hE eM_0) rfl 42 (by decide) u4_230 (fun _ h => h) rfl rfl dX12_isLike_22 ?_
        refine lv_bipush (v := 10) hx hb dX12_isLike_25 (by decide) ?_
        refine lv_iload_n hx hb dX12_isLike_27 rfl (lv_at hl 2 rfl) ?_
        refine lv_imul hx hb dX12_isLike_28 ?_
        refine lv_iload_n hx hb dX12_isLike_29 rfl (lv_at hl 3 rfl) ?_
        refine lv_iadd hx hb dX12_isLike_30 ?_
        obtain ⟨h3, hf⟩ := chk_i hf
        refine s_ild hx hb hK hI (mE hE eM_24) (inB_i h3) dX12_isLike_31 ?_
        refine lv_icmp_ne (tgt := 60) hx hb dX12_isLike_32 (by decide) (fun c4 => ?_) (fun c4 => ?_)
        · have hf := ite_f c4 hf
          refine lv_iconst (v := 0) hx hb dX12_isLike_60 (by decide) ?_
          cases hf
          exact s_zret rfl hx hb hr hI.2.2 hI.1 hlocks dX12_isLike_61
        · have hf := ite_t c4 hf
          refine lv_aload_n hx hb dX12_isLike_35 rfl (lv_at hl 0 rfl) ?_
          refine s_get (v := .ref (ad 25)) hx hb hu inU12 hown hK hI (mE hE eM_0) rfl 43 (by decide) u4_231 (fun _ h => h) rfl rfl dX12_isLike_36 ?_
          refine lv_bipush (v := 10) hx hb dX12_isLike_39 (by decide) ?_
          refine lv_iload_n hx hb dX12_isLike_41 rfl (lv_at hl 1 rfl) ?_
          refine lv_imul hx hb dX12_isLike_42 ?_
          refine lv_iload_n hx hb dX12_isLike_43 rfl (lv_at hl 3 rfl) ?_
          refine lv_iadd hx hb dX12_isLike_44 ?_
          obtain ⟨h5, hf⟩ := chk_i hf
          refine s_ild hx hb hK hI (mE hE eM_25) (inB_i h5) dX12_isLike_45 ?_
          refine lv_aload_n hx hb dX12_isLike_46 rfl (lv_at hl 0 rfl) ?_
          refine s_get (v := .ref (ad 25)) hx hb hu inU12 hown hK hI (mE hE eM_0) rfl 43 (by decide) u4_231 (fun _ h => h) rfl rfl dX12_isLike_47 ?_
          refine lv_bipush (v := 10) hx hb dX12_isLike_50 (by decide) ?_
          refine lv_iload_n hx hb dX12_isLike_52 rfl (lv_at hl 2 rfl) ?_
          refine lv_imul hx hb dX12_isLike_53 ?_
          refine lv_iload_n hx hb dX12_isLike_54 rfl (lv_at hl 3 rfl) ?_
          refine lv_iadd hx hb dX12_isLike_55 ?_
          obtain ⟨h6, hf⟩ := chk_i hf
          refine s_ild hx hb hK hI (mE hE eM_25) (inB_i h6) dX12_isLike_56 ?_
          refine lv_icmp_eq (tgt := 62) hx hb dX12_isLike_57 (by decide) (fun c7 => ?_) (fun c7 => ?_)
          · have hf := ite_t c7 hf
            obtain ⟨x3_8, ex3_8, hf⟩ := bnd_i hf
            refine lv_iinc (v := x3_8) (lv' := [(3, .int x3_8), (0, .ref (ad 0)), (1, .int x1), (2, .int x2)]) hx hb dX12_isLike_62 hl (k := 3) rfl (by rw [ex3_8]; rfl) (by decide) rfl (fun ls hl => ?_)
            refine lv_goto (tgt := 2) hx hb dX12_isLike_65 (by decide) ?_
            exact ih x3_8 H locs ls (lv_sub hl [1, 2, 3, 0] rfl) hI hf
          · have hf := ite_f c7 hf
            refine lv_iconst (v := 0) hx hb dX12_isLike_60 (by decide) ?_
            cases hf
            exact s_zret rfl hx hb hr hI.2.2 hI.1 hlocks dX12_isLike_61
  rw [f_X12_isLike] at hf
  refine lv_iconst (v := 0) hx hb dX12_isLike_0 (by decide) ?_
  refine lv_istore_n (lv' := [(3, .int 0), (0, .ref (ad 0)), (1, .int x1), (2, .int x2)]) hx hb dX12_isLike_1 rfl hl (by decide) rfl (fun ls hl => ?_)
  exact B2   fuel 0 H locs ls (lv_sub hl [1, 2, 3, 0] rfl) hI hf
noncomputable def q_X12_round_120 (x1 : Int32) (x2 : Int32) (x3 : Int32) (k44 : (Mem × Int32) → Option (Mem × Int32)) (rec : (Mem × Int32 × Int32) → Option (Mem × Int32)) : (Mem × Int32 × Int32) → Option (Mem × Int32) := fun (G, x4, x5) => (if x4 ≤ x5 then bnd (x4 + 1) (fun x4_12 => k44 (G, x4_12)) else bndO (f_X12_isLike G x5 x4) (fun v13 => (if v13 = 0 then bnd (x5 + 1) (fun x5_16 => rec (G, x4, x5_16)) else (if x3 = 0 then some (G, x4) else some (G, x5)))))
noncomputable def q_X12_round_62 (x1 : Int32) (x2 : Int32) (x3 : Int32) (k44 : (Mem × Int32) → Option (Mem × Int32)) (rec : (Mem × Int32 × Int32) → Option (Mem × Int32)) : (Mem × Int32 × Int32) → Option (Mem × Int32) := fun (G, x4, x5) => (if (G 0 7) ≤ x5 then iter (q_X12_round_120 x1 x2 x3 k44) fuel (G, x4, 0) else chk (inB x5 10) (chk (inB ((10 * x4) + x5) 2000) (bnd (up2 G 24 ((10 * x4) + x5).toNatClampNeg (G 18 x5.toNatClampNeg)) (fun G20 => chk (inB x5 10) (chk (inB ((10 * x4) + x5) 2000) (bnd (up2 G20 25 ((10 * x4) + x5).toNatClampNeg (G20 19 x5.toNatClampNeg)) (fun G23 => bnd (x5 + 1) (fun x5_24 => rec (G23, x4, x5_24)))))))))
noncomputable def q_X12_round_44 (x1 : Int32) (x2 : Int32) (x3 : Int32)  (rec : (Mem × Int32) → Option (Mem × Int32)) : (Mem × Int32) → Option (Mem × Int32) := fun (G, x4) => (if 200 ≤ x4 then some (G, (-1)) else bndO (f_X12_go G x1 x4) (fun G8 => iter (q_X12_round_62 x1 x2 x3 rec) fuel (G8, x4, 0)))
noncomputable def j_X12_round_10 (x1 : Int32) (x2 : Int32) (x3 : Int32)  (G : Mem) : Option (Mem × Int32) := (if (f_X12_in x2 0 9) = 0 then some (G, (-2)) else (if (f_X12_in x3 0 1) = 0 then some (G, (-2)) else bndO (f_X12_begin G) (fun G4 => bnd (up2 G4 0 40 x2) (fun G6 => iter (q_X12_round_44 x1 x2 x3) fuel (G6, 0)))))
noncomputable def f_X12_round (G : Mem) (x1 : Int32) (x2 : Int32) (x3 : Int32) : Option (Mem × Int32) := (if x1 = 0 then j_X12_round_10 x1 x2 x3 G else (if x1 = 6 then j_X12_round_10 x1 x2 x3 G else some (G, (-2))))
theorem kyX12_round : Ky yX12_round cX12_round 6 (some FieldType.int) 3 := ⟨u6_91, u1_15, by decide, by decide, by decide, by decide +kernel⟩
set_option maxHeartbeats 4000000 in
set_option maxRecDepth 100000 in
theorem c_X12_round (l : Launch) (D : va_G) (K : List Nat) (sh : Nat → Ent) (ad : Nat → Nat) (cy : Nat → ClassId) (X : va_W) (B : State → Prop) (hcl : Bcl (AS K ad X) B) (hE : ∀ q ∈ shM, q.1 ∈ K ∧ sh q.1 = q.2) (G : Mem) (L : MemL) (O : MemO) (x1 : Int32) (x2 : Int32) (x3 : Int32) {Gz : Mem} {vz : Int32} (hf : f_X12_round G x1 x2 x3 = some (Gz, vz)) : Met l yX12_round (wsU yX12_round cX12_round 6 (some FieldType.int)) (rmX 5 0 0) (va_Pc [.ref (ad 0), .int x1, .int x2, .int x3] (PS D K sh ad cy X B G L O)) (QI (AS K ad X) (PH D K sh ad cy X Gz L O) vz) 0 0 (AS K ad X) := by
  refine s_met (by decide) (Nat.le_of_ble_eq_true rfl) ?_
  intro p e s m args below meth c ls H locs E hK hBs hnm hI hl
  have hl : lv_has ls 6 [(0, .ref (ad 0)), (1, .int x1), (2, .int x2), (3, .int x3)] := hl
  have E : Cx p s m args meth c RX12 cX12_round 6 (some FieldType.int) := E
  obtain ⟨hx, hb, hr, hml, hown, hu, hlocks⟩ := id E
  have B120 : ∀ (k44 : (Mem × Int32) → Option (Mem × Int32)) (hk44 : ∀ (G : Mem) (x4 : Int32) (H : Heap) (locs : List Loc) (ls : Array Slot), lv_has ls 6 [(0, .ref (ad 0)), (1, .int x1), (3, .int x3), (4, .int x4)] → IS D K sh ad cy X (AS K ad X) s.heap H locs G L O → k44 (G, x4) = some (Gz, vz) → W p l e (rmX 5 0 0) s m args below meth c H locs 0 0 (MQ below (QI (AS K ad X) (PH D K sh ad cy X Gz L O) vz) args s 0 0 (AS K ad X)) (F0 m 44 ls [])) (n : Nat) (G : Mem) (x4 : Int32) (x5 : Int32) (H : Heap) (locs : List Loc) (ls : Array Slot), lv_has ls 6 [(0, .ref (ad 0)), (1, .int x1), (3, .int x3), (4, .int x4), (5, .int x5)] → IS D K sh ad cy X (AS K ad X) s.heap H locs G L O → iter (q_X12_round_120 x1 x2 x3 k44) n (G, x4, x5) = some (Gz, vz) → W p l e (rmX 5 0 0) s m args below meth c H locs 0 0 (MQ below (QI (AS K ad X) (PH D K sh ad cy X Gz L O) vz) args s 0 0 (AS K ad X)) (F0 m 120 ls []) := by
    intro k44 hk44 n
    induction n with
    | zero => intro G x4 x5 H locs ls hl hI hf; exact iter_0 hf
    | succ n ih =>
      intro G x4 x5 H locs ls hl hI hf
      have hf : q_X12_round_120 x1 x2 x3 k44 (iter (q_X12_round_120 x1 x2 x3 k44) n) (G, x4, x5) = some (Gz, vz) := hf
      rw [q_X12_round_120] at hf
      refine lv_iload hx hb dX12_round_120 (lv_at hl 4 rfl) ?_
      refine lv_iload hx hb dX12_round_122 (lv_at hl 3 rfl) ?_
      refine lv_icmp_ge (tgt := 156) hx hb dX12_round_124 (by decide) (fun c11 => ?_) (fun c11 => ?_)
      · have hf := ite_t c11 hf
        obtain ⟨x4_12, ex4_12, hf⟩ := bnd_i hf
        refine lv_iinc (v := x4_12) (lv' := [(4, .int x4_12), (0, .ref (ad 0)), (1, .int x1), (3, .int x3), (5, .int x5)]) hx hb dX12_round_156 hl (k := 3) rfl (by rw [ex4_12]; rfl) (by decide) rfl (fun ls hl => ?_)
        refine lv_goto (tgt := 44) hx hb dX12_round_159 (by decide) ?_
        exact hk44 G x4_12 H locs ls (lv_sub hl [1, 2, 3, 0] rfl) hI hf
      · have hf := ite_f c11 hf
        refine lv_aload_n hx hb dX12_round_127 rfl (lv_at hl 0 rfl) ?_
        refine lv_iload hx hb dX12_round_128 (lv_at hl 4 rfl) ?_
        refine lv_iload hx hb dX12_round_130 (lv_at hl 3 rfl) ?_
        obtain ⟨v13, h14, hf⟩ := bndO_i hf
        refine s_afI hI (s_runV (rest := []) (As := [.int x5, .int x4]) (np := 2) E hK hI (s_B hcl hBs hI) hcl.2 (mE hE eM_0) rfl (c_X12_isLike l D K sh ad cy X B hcl hE G L O x5 x4 h14) kyX12_isLike u6_92 u6_94 up_59 (by decide) rfl hl.1 rfl (Nat.le_of_ble_eq_true rfl) ⟨Nat.zero_le _, Nat.zero_le _⟩ dX12_round_132) (fun H locs hI => ?_)
        refine lv_if_eq (tgt := 150) hx hb dX12_round_135 (by decide) (fun c15 => ?_) (fun c15 => ?_)
        · have hf := ite_t c15 hf
          obtain ⟨x5_16, ex5_16, hf⟩ := bnd_i hf
          refine lv_iinc (v := x5_16) (lv' := [(5, .int x5_16), (0, .ref (ad 0)), (1, .int x1), (3, .int x3), (4, .int x4)]) hx hb dX12_round_150 hl (k := 4) rfl (by rw [ex5_16]; rfl) (by decide) rfl (fun ls hl => ?_)
          refine lv_goto (tgt := 120) hx hb dX12_round_153 (by decide) ?_
          exact ih G x4 x5_16 H locs ls (lv_sub hl [1, 2, 3, 4, 0] rfl) hI hf
        · have hf := ite_f c15 hf
          refine lv_iload_n hx hb dX12_round_138 rfl (lv_at hl 2 rfl) ?_
          refine lv_if_ne (tgt := 147) hx hb dX12_round_139 (by decide) (fun c17 => ?_) (fun c17 => ?_)
          · have hf := ite_f c17 hf
            refine lv_iload hx hb dX12_round_147 (lv_at hl 4 rfl) ?_
            cases hf
            exact s_iret hx hb hr hI.2.2 hI.1 hlocks dX12_round_149
          · have hf := ite_t c17 hf
            refine lv_iload hx hb dX12_round_142 (lv_at hl 3 rfl) ?_
            refine lv_goto (tgt := 149) hx hb dX12_round_144 (by decide) ?_
            cases hf
            exact s_iret hx hb hr hI.2.2 hI.1 hlocks dX12_round_149
  have B62 : ∀ (k44 : (Mem × Int32) → Option (Mem × Int32)) (hk44 : ∀ (G : Mem) (x4 : Int32) (H : Heap) (locs : List Loc) (ls : Array Slot), lv_has ls 6 [(0, .ref (ad 0)), (1, .int x1), (3, .int x3), (4, .int x4)] → IS D K sh ad cy X (AS K ad X) s.heap H locs G L O → k44 (G, x4) = some (Gz, vz) → W p l e (rmX 5 0 0) s m args below meth c H locs 0 0 (MQ below (QI (AS K ad X) (PH D K sh ad cy X Gz L O) vz) args s 0 0 (AS K ad X)) (F0 m 44 ls [])) (n : Nat) (G : Mem) (x4 : Int32) (x5 : Int32) (H : Heap) (locs : List Loc) (ls : Array Slot), lv_has ls 6 [(0, .ref (ad 0)), (1, .int x1), (3, .int x3), (4, .int x4), (5, .int x5)] → IS D K sh ad cy X (AS K ad X) s.heap H locs G L O → iter (q_X12_round_62 x1 x2 x3 k44) n (G, x4, x5) = some (Gz, vz) → W p l e (rmX 5 0 0) s m args below meth c H locs 0 0 (MQ below (QI (AS K ad X) (PH D K sh ad cy X Gz L O) vz) args s 0 0 (AS K ad X)) (F0 m 62 ls []) := by
    intro k44 hk44 n
    induction n with
    | zero => intro G x4 x5 H locs ls hl hI hf; exact iter_0 hf
    | succ n ih =>
      intro G x4 x5 H locs ls hl hI hf
      have hf : q_X12_round_62 x1 x2 x3 k44 (iter (q_X12_round_62 x1 x2 x3 k44) n) (G, x4, x5) = some (Gz, vz) := hf
      rw [q_X12_round_62] at hf
      refine lv_iload hx hb dX12_round_62 (lv_at hl 4 rfl) ?_
      refine lv_aload_n hx hb dX12_round_64 rfl (lv_at hl 0 rfl) ?_
      refine s_get (v := .int (G 0 7)) hx hb hu inU12 hown hK hI (mE hE eM_0) rfl 7 (by decide) u4_195 (fun _ h => h) rfl rfl dX12_round_65 ?_
      refine lv_icmp_ge (tgt := 117) hx hb dX12_round_68 (by decide) (fun c10 => ?_) (fun c10 => ?_)
      · have hf := ite_t c10 hf
        refine lv_iconst (v := 0) hx hb dX12_round_117 (by decide) ?_
        refine lv_istore (lv' := [(5, .int 0), (0, .ref (ad 0)), (1, .int x1), (3, .int x3), (4, .int x4)]) hx hb dX12_round_118 hl (by decide) rfl (fun ls hl => ?_)
        exact B120 _ hk44 fuel G x4 0 H locs ls (lv_sub hl [1, 2, 3, 4, 0] rfl) hI hf
      · have hf := ite_f c10 hf
        refine lv_aload_n hx hb dX12_round_71 rfl (lv_at hl 0 rfl) ?_
        refine s_get (v := .ref (ad 24)) hx hb hu inU12 hown hK hI (mE hE eM_0) rfl 42 (by decide) u4_230 (fun _ h => h) rfl rfl dX12_round_72 ?_
        refine lv_bipush (v := 10) hx hb dX12_round_75 (by decide) ?_
        refine lv_iload hx hb dX12_round_77 (lv_at hl 3 rfl) ?_
        refine lv_imul hx hb dX12_round_79 ?_
        refine lv_iload hx hb dX12_round_80 (lv_at hl 4 rfl) ?_
        refine lv_iadd hx hb dX12_round_82 ?_
        refine lv_aload_n hx hb dX12_round_83 rfl (lv_at hl 0 rfl) ?_
        refine s_get (v := .ref (ad 18)) hx hb hu inU12 hown hK hI (mE hE eM_0) rfl 31 (by decide) u4_219 (fun _ h => h) rfl rfl dX12_round_84 ?_
        refine lv_iload hx hb dX12_round_87 (lv_at hl 4 rfl) ?_
        obtain ⟨h18, hf⟩ := chk_i hf
        refine s_ild hx hb hK hI (mE hE eM_18) (inB_i h18) dX12_round_89 ?_
        obtain ⟨h19, hf⟩ := chk_i hf
        obtain ⟨G20, eG20, hf⟩ := bnd_i hf
        refine s_ist hx hb hK hI (mE hE eM_24) (inB_i h19) eG20 dX12_round_90 (fun H locs hI => ?_)
        refine lv_aload_n hx hb dX12_round_91 rfl (lv_at hl 0 rfl) ?_
        refine s_get (v := .ref (ad 25)) hx hb hu inU12 hown hK hI (mE hE eM_0) rfl 43 (by decide) u4_231 (fun _ h => h) rfl rfl dX12_round_92 ?_
        refine lv_bipush (v := 10) hx hb dX12_round_95 (by decide) ?_
        refine lv_iload hx hb dX12_round_97 (lv_at hl 3 rfl) ?_
        refine lv_imul hx hb dX12_round_99 ?_
        refine lv_iload hx hb dX12_round_100 (lv_at hl 4 rfl) ?_
        refine lv_iadd hx hb dX12_round_102 ?_
        refine lv_aload_n hx hb dX12_round_103 rfl (lv_at hl 0 rfl) ?_
        refine s_get (v := .ref (ad 19)) hx hb hu inU12 hown hK hI (mE hE eM_0) rfl 32 (by decide) u4_220 (fun _ h => h) rfl rfl dX12_round_104 ?_
        refine lv_iload hx hb dX12_round_107 (lv_at hl 4 rfl) ?_
        obtain ⟨h21, hf⟩ := chk_i hf
        refine s_ild hx hb hK hI (mE hE eM_19) (inB_i h21) dX12_round_109 ?_
        obtain ⟨h22, hf⟩ := chk_i hf
        obtain ⟨G23, eG23, hf⟩ := bnd_i hf
        refine s_ist hx hb hK hI (mE hE eM_25) (inB_i h22) eG23 dX12_round_110 (fun H locs hI => ?_)
        obtain ⟨x5_24, ex5_24, hf⟩ := bnd_i hf
        refine lv_iinc (v := x5_24) (lv' := [(5, .int x5_24), (0, .ref (ad 0)), (1, .int x1), (3, .int x3), (4, .int x4)]) hx hb dX12_round_111 hl (k := 4) rfl (by rw [ex5_24]; rfl) (by decide) rfl (fun ls hl => ?_)
        refine lv_goto (tgt := 62) hx hb dX12_round_114 (by decide) ?_
        exact ih G23 x4 x5_24 H locs ls (lv_sub hl [1, 2, 3, 4, 0] rfl) hI hf
  have B44 : ∀   (n : Nat) (G : Mem) (x4 : Int32) (H : Heap) (locs : List Loc) (ls : Array Slot), lv_has ls 6 [(0, .ref (ad 0)), (1, .int x1), (3, .int x3), (4, .int x4)] → IS D K sh ad cy X (AS K ad X) s.heap H locs G L O → iter (q_X12_round_44 x1 x2 x3) n (G, x4) = some (Gz, vz) → W p l e (rmX 5 0 0) s m args below meth c H locs 0 0 (MQ below (QI (AS K ad X) (PH D K sh ad cy X Gz L O) vz) args s 0 0 (AS K ad X)) (F0 m 44 ls []) := by
    intro n
    induction n with
    | zero => intro G x4 H locs ls hl hI hf; exact iter_0 hf
    | succ n ih =>
      intro G x4 H locs ls hl hI hf
      have hf : q_X12_round_44 x1 x2 x3 (iter (q_X12_round_44 x1 x2 x3) n) (G, x4) = some (Gz, vz) := hf
      rw [q_X12_round_44] at hf
      refine lv_iload hx hb dX12_round_44 (lv_at hl 3 rfl) ?_
      refine lv_sipush (v := 200) hx hb dX12_round_46 (by decide) ?_
      refine lv_icmp_ge (tgt := 162) hx hb dX12_round_49 (by decide) (fun c7 => ?_) (fun c7 => ?_)
      · have hf := ite_t c7 hf
        refine lv_iconst (v := (-1)) hx hb dX12_round_162 (by decide) ?_
        cases hf
        exact s_iret hx hb hr hI.2.2 hI.1 hlocks dX12_round_163
      · have hf := ite_f c7 hf
        refine lv_aload_n hx hb dX12_round_52 rfl (lv_at hl 0 rfl) ?_
        refine lv_iload_n hx hb dX12_round_53 rfl (lv_at hl 1 rfl) ?_
        refine lv_iload hx hb dX12_round_54 (lv_at hl 3 rfl) ?_
        obtain ⟨G8, h9, hf⟩ := bndO_i hf
        refine s_afV hI (s_runV (rest := []) (As := [.int x1, .int x4]) (np := 2) E hK hI (s_B hcl hBs hI) hcl.2 (mE hE eM_0) rfl (c_X12_go l D K sh ad cy X B hcl hE G L O x1 x4 h9) kyX12_go u6_13 u6_15 up_47 (by decide) rfl hl.1 rfl (Nat.le_of_ble_eq_true rfl) ⟨Nat.zero_le _, Nat.zero_le _⟩ dX12_round_56) (fun H locs hI => ?_)
        refine lv_iconst (v := 0) hx hb dX12_round_59 (by decide) ?_
        refine lv_istore (lv' := [(5, .int 0), (0, .ref (ad 0)), (1, .int x1), (3, .int x3), (4, .int x4)]) hx hb dX12_round_60 hl (by decide) rfl (fun ls hl => ?_)
        exact B62 _ ih fuel G8 x4 0 H locs ls (lv_sub hl [1, 2, 3, 4, 0] rfl) hI hf
  have B10 : ∀    (G : Mem) (H : Heap) (locs : List Loc) (ls : Array Slot), lv_has ls 6 [(0, .ref (ad 0)), (1, .int x1), (2, .int x2), (3, .int x3)] → IS D K sh ad cy X (AS K ad X) s.heap H locs G L O → j_X12_round_10 x1 x2 x3 G = some (Gz, vz) → W p l e (rmX 5 0 0) s m args below meth c H locs 0 0 (MQ below (QI (AS K ad X) (PH D K sh ad cy X Gz L O) vz) args s 0 0 (AS K ad X)) (F0 m 10 ls []) := by
    intro  G H locs ls hl hI hf
    rw [j_X12_round_10] at hf
    refine lv_iload_n hx hb dX12_round_10 rfl (lv_at hl 2 rfl) ?_
    refine lv_iconst (v := 0) hx hb dX12_round_11 (by decide) ?_
    refine lv_bipush (v := 9) hx hb dX12_round_12 (by decide) ?_
    refine s_cSP (np := 3) (rest := []) E (c_X12_in l x2 0 9 rfl) kyX12_in u5_128 u5_129 (by decide) rfl hl.1 rfl (Nat.le_of_ble_eq_true rfl) ⟨Nat.zero_le _, Nat.zero_le _⟩ dX12_round_14 ?_
    refine lv_if_eq (tgt := 29) hx hb dX12_round_17 (by decide) (fun c2 => ?_) (fun c2 => ?_)
    · have hf := ite_t c2 hf
      refine lv_bipush (v := (-2)) hx hb dX12_round_29 (by decide) ?_
      cases hf
      exact s_iret hx hb hr hI.2.2 hI.1 hlocks dX12_round_31
    · have hf := ite_f c2 hf
      refine lv_iload_n hx hb dX12_round_20 rfl (lv_at hl 3 rfl) ?_
      refine lv_iconst (v := 0) hx hb dX12_round_21 (by decide) ?_
      refine lv_iconst (v := 1) hx hb dX12_round_22 (by decide) ?_
      refine s_cSP (np := 3) (rest := []) E (c_X12_in l x3 0 1 rfl) kyX12_in u5_128 u5_129 (by decide) rfl hl.1 rfl (Nat.le_of_ble_eq_true rfl) ⟨Nat.zero_le _, Nat.zero_le _⟩ dX12_round_23 ?_
      refine lv_if_ne (tgt := 32) hx hb dX12_round_26 (by decide) (fun c3 => ?_) (fun c3 => ?_)
      · have hf := ite_f c3 hf
        refine lv_aload_n hx hb dX12_round_32 rfl (lv_at hl 0 rfl) ?_
        obtain ⟨G4, h5, hf⟩ := bndO_i hf
        refine s_afV hI (s_runV (rest := []) (As := []) (np := 0) E hK hI (s_B hcl hBs hI) hcl.2 (mE hE eM_0) rfl (c_X12_begin l D K sh ad cy X B hcl hE G L O  h5) kyX12_begin u6_9 u6_11 up_46 (by decide) rfl hl.1 rfl (Nat.le_of_ble_eq_true rfl) ⟨Nat.zero_le _, Nat.zero_le _⟩ dX12_round_33) (fun H locs hI => ?_)
        refine lv_aload_n hx hb dX12_round_36 rfl (lv_at hl 0 rfl) ?_
        refine lv_iload_n hx hb dX12_round_37 rfl (lv_at hl 2 rfl) ?_
        obtain ⟨G6, eG6, hf⟩ := bnd_i hf
        refine s_put (ty := .int) hx hb hu inU12 tyX12_ok nmX12 hown hK hI (mE hE eM_0) rfl 40 (by decide) u4_228 (fun _ h => h) rfl rfl (tyX12_ok 40 (by decide)) rfl rfl eG6 dX12_round_38 (fun H locs hI => ?_)
        refine lv_iconst (v := 0) hx hb dX12_round_41 (by decide) ?_
        refine lv_istore (lv' := [(4, .int 0), (0, .ref (ad 0)), (1, .int x1), (2, .int x2), (3, .int x3)]) hx hb dX12_round_42 hl (by decide) rfl (fun ls hl => ?_)
        exact B44   fuel G6 0 H locs ls (lv_sub hl [1, 2, 4, 0] rfl) hI hf
      · have hf := ite_t c3 hf
        refine lv_bipush (v := (-2)) hx hb dX12_round_29 (by decide) ?_
        cases hf
        exact s_iret hx hb hr hI.2.2 hI.1 hlocks dX12_round_31
  rw [f_X12_round] at hf
  refine lv_iload_n hx hb dX12_round_0 rfl (lv_at hl 1 rfl) ?_
  refine lv_if_eq (tgt := 10) hx hb dX12_round_1 (by decide) (fun c1 => ?_) (fun c1 => ?_)
  · have hf := ite_t c1 hf
    exact B10    G H locs ls (lv_sub hl [0, 1, 2, 3] rfl) hI hf
  · have hf := ite_f c1 hf
    refine lv_iload_n hx hb dX12_round_4 rfl (lv_at hl 1 rfl) ?_
    refine lv_bipush (v := 6) hx hb dX12_round_5 (by decide) ?_
    refine lv_icmp_ne (tgt := 29) hx hb dX12_round_7 (by decide) (fun c25 => ?_) (fun c25 => ?_)
    · have hf := ite_f c25 hf
      refine lv_bipush (v := (-2)) hx hb dX12_round_29 (by decide) ?_
      cases hf
      exact s_iret hx hb hr hI.2.2 hI.1 hlocks dX12_round_31
    · have hf := ite_t c25 hf
      exact B10    G H locs ls (lv_sub hl [0, 1, 2, 3] rfl) hI hf
noncomputable def f_X12_lent (G : Mem) (x1 : Int32) (x2 : Int32) (x3 : Int32) : Option (Mem × Int64) := (if (f_X12_isWay x1) = 0 then some (G, (-4611686018427387904)) else bndO (f_X12_isMissing G x1) (fun v2 => (if v2 = 0 then (if (f_X12_isSinger G x2) = 0 then some (G, (-4611686018427387904)) else (if (f_X12_in x3 0 3) = 0 then some (G, (-4611686018427387904)) else bndO (f_X12_begin G) (fun G7 => bndP (f_X12_badOf G7 x1) (fun G9 v10 => chk (inB x2 10) (bnd (G9 6 x2.toNatClampNeg) (fun x6_13 => chk (inB x2 10) (bnd (up2 G9 6 x2.toNatClampNeg x3) (fun G15 => bndO (f_X12_begin G15) (fun G16 => bndP (f_X12_badOf G16 x1) (fun G18 v19 => chk (inB x2 10) (bnd (up2 G18 6 x2.toNatClampNeg x6_13) (fun G22 => some (G22, (v19 - v10)))))))))))))) else some (G, (-4611686018427387904)))))
theorem kyX12_lent : Ky yX12_lent cX12_lent 9 (some FieldType.long) 3 := ⟨u6_99, u1_15, by decide, by decide, by decide, by decide +kernel⟩
set_option maxHeartbeats 4000000 in
set_option maxRecDepth 100000 in
theorem c_X12_lent (l : Launch) (D : va_G) (K : List Nat) (sh : Nat → Ent) (ad : Nat → Nat) (cy : Nat → ClassId) (X : va_W) (B : State → Prop) (hcl : Bcl (AS K ad X) B) (hE : ∀ q ∈ shM, q.1 ∈ K ∧ sh q.1 = q.2) (G : Mem) (L : MemL) (O : MemO) (x1 : Int32) (x2 : Int32) (x3 : Int32) {Gz : Mem} {vz : Int64} (hf : f_X12_lent G x1 x2 x3 = some (Gz, vz)) : Met l yX12_lent (wsU yX12_lent cX12_lent 9 (some FieldType.long)) (rmX 6 0 0) (va_Pc [.ref (ad 0), .int x1, .int x2, .int x3] (PS D K sh ad cy X B G L O)) (QL (AS K ad X) (PH D K sh ad cy X Gz L O) vz) 0 0 (AS K ad X) := by
  refine s_met (by decide) (Nat.le_of_ble_eq_true rfl) ?_
  intro p e s m args below meth c ls H locs E hK hBs hnm hI hl
  have hl : lv_has ls 9 [(0, .ref (ad 0)), (1, .int x1), (2, .int x2), (3, .int x3)] := hl
  have E : Cx p s m args meth c RX12 cX12_lent 9 (some FieldType.long) := E
  obtain ⟨hx, hb, hr, hml, hown, hu, hlocks⟩ := id E
  rw [f_X12_lent] at hf
  refine lv_aload_n hx hb dX12_lent_0 rfl (lv_at hl 0 rfl) ?_
  refine lv_iload_n hx hb dX12_lent_1 rfl (lv_at hl 1 rfl) ?_
  refine s_afI hI (s_runV (rest := []) (As := [.int x1]) (np := 1) E hK hI (s_B hcl hBs hI) hcl.2 (mE hE eM_0) rfl (c_X12_isWay l D K sh ad cy X B hcl hE G L O x1 rfl) kyX12_isWay u5_237 u5_239 up_43 (by decide) rfl hl.1 rfl (Nat.le_of_ble_eq_true rfl) ⟨Nat.zero_le _, Nat.zero_le _⟩ dX12_lent_2) (fun H locs hI => ?_)
  refine lv_if_eq (tgt := 33) hx hb dX12_lent_5 (by decide) (fun c1 => ?_) (fun c1 => ?_)
  · have hf := ite_t c1 hf
    refine lv_ldc2 (v := (-4611686018427387904)) hx hb hown (hu _ u6_72) dX12_lent_33 ?_
    cases hf
    exact s_lret hx hb hr hI.2.2 hI.1 hlocks dX12_lent_36
  · have hf := ite_f c1 hf
    refine lv_aload_n hx hb dX12_lent_8 rfl (lv_at hl 0 rfl) ?_
    refine lv_iload_n hx hb dX12_lent_9 rfl (lv_at hl 1 rfl) ?_
    obtain ⟨v2, h3, hf⟩ := bndO_i hf
    refine s_afI hI (s_runV (rest := []) (As := [.int x1]) (np := 1) E hK hI (s_B hcl hBs hI) hcl.2 (mE hE eM_0) rfl (c_X12_isMissing l D K sh ad cy X B hcl hE G L O x1 h3) kyX12_isMissing u6_5 u6_7 up_45 (by decide) rfl hl.1 rfl (Nat.le_of_ble_eq_true rfl) ⟨Nat.zero_le _, Nat.zero_le _⟩ dX12_lent_10) (fun H locs hI => ?_)
    refine lv_if_ne (tgt := 33) hx hb dX12_lent_13 (by decide) (fun c4 => ?_) (fun c4 => ?_)
    · have hf := ite_f c4 hf
      refine lv_ldc2 (v := (-4611686018427387904)) hx hb hown (hu _ u6_72) dX12_lent_33 ?_
      cases hf
      exact s_lret hx hb hr hI.2.2 hI.1 hlocks dX12_lent_36
    · have hf := ite_t c4 hf
      refine lv_aload_n hx hb dX12_lent_16 rfl (lv_at hl 0 rfl) ?_
      refine lv_iload_n hx hb dX12_lent_17 rfl (lv_at hl 2 rfl) ?_
      refine s_afI hI (s_runV (rest := []) (As := [.int x2]) (np := 1) E hK hI (s_B hcl hBs hI) hcl.2 (mE hE eM_0) rfl (c_X12_isSinger l D K sh ad cy X B hcl hE G L O x2 rfl) kyX12_isSinger u5_139 u5_141 up_25 (by decide) rfl hl.1 rfl (Nat.le_of_ble_eq_true rfl) ⟨Nat.zero_le _, Nat.zero_le _⟩ dX12_lent_18) (fun H locs hI => ?_)
      refine lv_if_eq (tgt := 33) hx hb dX12_lent_21 (by decide) (fun c5 => ?_) (fun c5 => ?_)
      · have hf := ite_t c5 hf
        refine lv_ldc2 (v := (-4611686018427387904)) hx hb hown (hu _ u6_72) dX12_lent_33 ?_
        cases hf
        exact s_lret hx hb hr hI.2.2 hI.1 hlocks dX12_lent_36
      · have hf := ite_f c5 hf
        refine lv_iload_n hx hb dX12_lent_24 rfl (lv_at hl 3 rfl) ?_
        refine lv_iconst (v := 0) hx hb dX12_lent_25 (by decide) ?_
        refine lv_iconst (v := 3) hx hb dX12_lent_26 (by decide) ?_
        refine s_cSP (np := 3) (rest := []) E (c_X12_in l x3 0 3 rfl) kyX12_in u5_128 u5_129 (by decide) rfl hl.1 rfl (Nat.le_of_ble_eq_true rfl) ⟨Nat.zero_le _, Nat.zero_le _⟩ dX12_lent_27 ?_
        refine lv_if_ne (tgt := 37) hx hb dX12_lent_30 (by decide) (fun c6 => ?_) (fun c6 => ?_)
        · have hf := ite_f c6 hf
          refine lv_aload_n hx hb dX12_lent_37 rfl (lv_at hl 0 rfl) ?_
          obtain ⟨G7, h8, hf⟩ := bndO_i hf
          refine s_afV hI (s_runV (rest := []) (As := []) (np := 0) E hK hI (s_B hcl hBs hI) hcl.2 (mE hE eM_0) rfl (c_X12_begin l D K sh ad cy X B hcl hE G L O  h8) kyX12_begin u6_9 u6_11 up_46 (by decide) rfl hl.1 rfl (Nat.le_of_ble_eq_true rfl) ⟨Nat.zero_le _, Nat.zero_le _⟩ dX12_lent_38) (fun H locs hI => ?_)
          refine lv_aload_n hx hb dX12_lent_41 rfl (lv_at hl 0 rfl) ?_
          refine lv_iload_n hx hb dX12_lent_42 rfl (lv_at hl 1 rfl) ?_
          obtain ⟨G9, v10, h11, hf⟩ := bndP_i hf
          refine s_afL hI (s_runV (rest := []) (As := [.int x1]) (np := 1) E hK hI (s_B hcl hBs hI) hcl.2 (mE hE eM_0) rfl (c_X12_badOf l D K sh ad cy X B hcl hE G7 L O x1 h11) kyX12_badOf u6_73 u6_75 up_58 (by decide) rfl hl.1 rfl (Nat.le_of_ble_eq_true rfl) ⟨Nat.zero_le _, Nat.zero_le _⟩ dX12_lent_43) (fun H locs hI => ?_)
          refine lv_lstore (lv' := [(4, .long v10), (0, .ref (ad 0)), (1, .int x1), (2, .int x2), (3, .int x3)]) hx hb dX12_lent_46 hl (by decide) rfl (fun ls hl => ?_)
          refine lv_aload_n hx hb dX12_lent_48 rfl (lv_at hl 1 rfl) ?_
          refine s_get (v := .ref (ad 6)) hx hb hu inU12 hown hK hI (mE hE eM_0) rfl 9 (by decide) u4_197 (fun _ h => h) rfl rfl dX12_lent_49 ?_
          refine lv_iload_n hx hb dX12_lent_52 rfl (lv_at hl 3 rfl) ?_
          obtain ⟨h12, hf⟩ := chk_i hf
          refine s_ild hx hb hK hI (mE hE eM_6) (inB_i h12) dX12_lent_53 ?_
          obtain ⟨x6_13, ex6_13, hf⟩ := bnd_i hf
          refine s_nmI ex6_13 ?_
          refine lv_istore (lv' := [(6, .int x6_13), (4, .long v10), (0, .ref (ad 0)), (1, .int x1), (2, .int x2), (3, .int x3)]) hx hb dX12_lent_54 hl (by decide) rfl (fun ls hl => ?_)
          refine lv_aload_n hx hb dX12_lent_56 rfl (lv_at hl 2 rfl) ?_
          refine s_get (v := .ref (ad 6)) hx hb hu inU12 hown hK hI (mE hE eM_0) rfl 9 (by decide) u4_197 (fun _ h => h) rfl rfl dX12_lent_57 ?_
          refine lv_iload_n hx hb dX12_lent_60 rfl (lv_at hl 4 rfl) ?_
          refine lv_iload_n hx hb dX12_lent_61 rfl (lv_at hl 5 rfl) ?_
          obtain ⟨h14, hf⟩ := chk_i hf
          obtain ⟨G15, eG15, hf⟩ := bnd_i hf
          refine s_ist hx hb hK hI (mE hE eM_6) (inB_i h14) eG15 dX12_lent_62 (fun H locs hI => ?_)
          refine lv_aload_n hx hb dX12_lent_63 rfl (lv_at hl 2 rfl) ?_
          obtain ⟨G16, h17, hf⟩ := bndO_i hf
          refine s_afV hI (s_runV (rest := []) (As := []) (np := 0) E hK hI (s_B hcl hBs hI) hcl.2 (mE hE eM_0) rfl (c_X12_begin l D K sh ad cy X B hcl hE G15 L O  h17) kyX12_begin u6_9 u6_11 up_46 (by decide) rfl hl.1 rfl (Nat.le_of_ble_eq_true rfl) ⟨Nat.zero_le _, Nat.zero_le _⟩ dX12_lent_64) (fun H locs hI => ?_)
          refine lv_aload_n hx hb dX12_lent_67 rfl (lv_at hl 2 rfl) ?_
          refine lv_iload_n hx hb dX12_lent_68 rfl (lv_at hl 3 rfl) ?_
          obtain ⟨G18, v19, h20, hf⟩ := bndP_i hf
          refine s_afL hI (s_runV (rest := []) (As := [.int x1]) (np := 1) E hK hI (s_B hcl hBs hI) hcl.2 (mE hE eM_0) rfl (c_X12_badOf l D K sh ad cy X B hcl hE G16 L O x1 h20) kyX12_badOf u6_73 u6_75 up_58 (by decide) rfl hl.1 rfl (Nat.le_of_ble_eq_true rfl) ⟨Nat.zero_le _, Nat.zero_le _⟩ dX12_lent_69) (fun H locs hI => ?_)
          refine lv_lstore (lv' := [(7, .long v19), (6, .int x6_13), (4, .long v10), (0, .ref (ad 0)), (1, .int x1), (2, .int x2), (3, .int x3)]) hx hb dX12_lent_72 hl (by decide) rfl (fun ls hl => ?_)
          refine lv_aload_n hx hb dX12_lent_74 rfl (lv_at hl 3 rfl) ?_
          refine s_get (v := .ref (ad 6)) hx hb hu inU12 hown hK hI (mE hE eM_0) rfl 9 (by decide) u4_197 (fun _ h => h) rfl rfl dX12_lent_75 ?_
          refine lv_iload_n hx hb dX12_lent_78 rfl (lv_at hl 5 rfl) ?_
          refine lv_iload hx hb dX12_lent_79 (lv_at hl 1 rfl) ?_
          obtain ⟨h21, hf⟩ := chk_i hf
          obtain ⟨G22, eG22, hf⟩ := bnd_i hf
          refine s_ist hx hb hK hI (mE hE eM_6) (inB_i h21) eG22 dX12_lent_81 (fun H locs hI => ?_)
          refine lv_lload hx hb dX12_lent_82 (lv_at hl 0 rfl) ?_
          refine lv_lload hx hb dX12_lent_84 (lv_at hl 2 rfl) ?_
          refine lv_lsub hx hb dX12_lent_86 ?_
          cases hf
          exact s_lret hx hb hr hI.2.2 hI.1 hlocks dX12_lent_87
        · have hf := ite_t c6 hf
          refine lv_ldc2 (v := (-4611686018427387904)) hx hb hown (hu _ u6_72) dX12_lent_33 ?_
          cases hf
          exact s_lret hx hb hr hI.2.2 hI.1 hlocks dX12_lent_36
noncomputable def f_X12_lost (G : Mem) (x1 : Int32) (x2 : Int32) (x3 : Int32) : Option (Mem × Int64) := (if (f_X12_isWay x1) = 0 then some (G, (-4611686018427387904)) else bndO (f_X12_isMissing G x1) (fun v2 => (if v2 = 0 then (if (f_X12_isSinger G x2) = 0 then some (G, (-4611686018427387904)) else (if (f_X12_in x3 0 47) = 0 then some (G, (-4611686018427387904)) else bndO (f_X12_begin G) (fun G7 => bndP (f_X12_badOf G7 x1) (fun G9 v10 => bndO (f_X12_begin G9) (fun G12 => bnd (up2 G12 0 36 x2) (fun G14 => bnd (up2 G14 0 37 x3) (fun G15 => bndP (f_X12_badOf G15 x1) (fun G16 v17 => some (G16, (v17 - v10)))))))))) else some (G, (-4611686018427387904)))))
theorem kyX12_lost : Ky yX12_lost cX12_lost 6 (some FieldType.long) 3 := ⟨u6_103, u1_15, by decide, by decide, by decide, by decide +kernel⟩
set_option maxHeartbeats 4000000 in
set_option maxRecDepth 100000 in
theorem c_X12_lost (l : Launch) (D : va_G) (K : List Nat) (sh : Nat → Ent) (ad : Nat → Nat) (cy : Nat → ClassId) (X : va_W) (B : State → Prop) (hcl : Bcl (AS K ad X) B) (hE : ∀ q ∈ shM, q.1 ∈ K ∧ sh q.1 = q.2) (G : Mem) (L : MemL) (O : MemO) (x1 : Int32) (x2 : Int32) (x3 : Int32) {Gz : Mem} {vz : Int64} (hf : f_X12_lost G x1 x2 x3 = some (Gz, vz)) : Met l yX12_lost (wsU yX12_lost cX12_lost 6 (some FieldType.long)) (rmX 6 0 0) (va_Pc [.ref (ad 0), .int x1, .int x2, .int x3] (PS D K sh ad cy X B G L O)) (QL (AS K ad X) (PH D K sh ad cy X Gz L O) vz) 0 0 (AS K ad X) := by
  refine s_met (by decide) (Nat.le_of_ble_eq_true rfl) ?_
  intro p e s m args below meth c ls H locs E hK hBs hnm hI hl
  have hl : lv_has ls 6 [(0, .ref (ad 0)), (1, .int x1), (2, .int x2), (3, .int x3)] := hl
  have E : Cx p s m args meth c RX12 cX12_lost 6 (some FieldType.long) := E
  obtain ⟨hx, hb, hr, hml, hown, hu, hlocks⟩ := id E
  rw [f_X12_lost] at hf
  refine lv_aload_n hx hb dX12_lost_0 rfl (lv_at hl 0 rfl) ?_
  refine lv_iload_n hx hb dX12_lost_1 rfl (lv_at hl 1 rfl) ?_
  refine s_afI hI (s_runV (rest := []) (As := [.int x1]) (np := 1) E hK hI (s_B hcl hBs hI) hcl.2 (mE hE eM_0) rfl (c_X12_isWay l D K sh ad cy X B hcl hE G L O x1 rfl) kyX12_isWay u5_237 u5_239 up_43 (by decide) rfl hl.1 rfl (Nat.le_of_ble_eq_true rfl) ⟨Nat.zero_le _, Nat.zero_le _⟩ dX12_lost_2) (fun H locs hI => ?_)
  refine lv_if_eq (tgt := 34) hx hb dX12_lost_5 (by decide) (fun c1 => ?_) (fun c1 => ?_)
  · have hf := ite_t c1 hf
    refine lv_ldc2 (v := (-4611686018427387904)) hx hb hown (hu _ u6_72) dX12_lost_34 ?_
    cases hf
    exact s_lret hx hb hr hI.2.2 hI.1 hlocks dX12_lost_37
  · have hf := ite_f c1 hf
    refine lv_aload_n hx hb dX12_lost_8 rfl (lv_at hl 0 rfl) ?_
    refine lv_iload_n hx hb dX12_lost_9 rfl (lv_at hl 1 rfl) ?_
    obtain ⟨v2, h3, hf⟩ := bndO_i hf
    refine s_afI hI (s_runV (rest := []) (As := [.int x1]) (np := 1) E hK hI (s_B hcl hBs hI) hcl.2 (mE hE eM_0) rfl (c_X12_isMissing l D K sh ad cy X B hcl hE G L O x1 h3) kyX12_isMissing u6_5 u6_7 up_45 (by decide) rfl hl.1 rfl (Nat.le_of_ble_eq_true rfl) ⟨Nat.zero_le _, Nat.zero_le _⟩ dX12_lost_10) (fun H locs hI => ?_)
    refine lv_if_ne (tgt := 34) hx hb dX12_lost_13 (by decide) (fun c4 => ?_) (fun c4 => ?_)
    · have hf := ite_f c4 hf
      refine lv_ldc2 (v := (-4611686018427387904)) hx hb hown (hu _ u6_72) dX12_lost_34 ?_
      cases hf
      exact s_lret hx hb hr hI.2.2 hI.1 hlocks dX12_lost_37
    · have hf := ite_t c4 hf
      refine lv_aload_n hx hb dX12_lost_16 rfl (lv_at hl 0 rfl) ?_
      refine lv_iload_n hx hb dX12_lost_17 rfl (lv_at hl 2 rfl) ?_
      refine s_afI hI (s_runV (rest := []) (As := [.int x2]) (np := 1) E hK hI (s_B hcl hBs hI) hcl.2 (mE hE eM_0) rfl (c_X12_isSinger l D K sh ad cy X B hcl hE G L O x2 rfl) kyX12_isSinger u5_139 u5_141 up_25 (by decide) rfl hl.1 rfl (Nat.le_of_ble_eq_true rfl) ⟨Nat.zero_le _, Nat.zero_le _⟩ dX12_lost_18) (fun H locs hI => ?_)
      refine lv_if_eq (tgt := 34) hx hb dX12_lost_21 (by decide) (fun c5 => ?_) (fun c5 => ?_)
      · have hf := ite_t c5 hf
        refine lv_ldc2 (v := (-4611686018427387904)) hx hb hown (hu _ u6_72) dX12_lost_34 ?_
        cases hf
        exact s_lret hx hb hr hI.2.2 hI.1 hlocks dX12_lost_37
      · have hf := ite_f c5 hf
        refine lv_iload_n hx hb dX12_lost_24 rfl (lv_at hl 3 rfl) ?_
        refine lv_iconst (v := 0) hx hb dX12_lost_25 (by decide) ?_
        refine lv_bipush (v := 47) hx hb dX12_lost_26 (by decide) ?_
        refine s_cSP (np := 3) (rest := []) E (c_X12_in l x3 0 47 rfl) kyX12_in u5_128 u5_129 (by decide) rfl hl.1 rfl (Nat.le_of_ble_eq_true rfl) ⟨Nat.zero_le _, Nat.zero_le _⟩ dX12_lost_28 ?_
        refine lv_if_ne (tgt := 38) hx hb dX12_lost_31 (by decide) (fun c6 => ?_) (fun c6 => ?_)
        · have hf := ite_f c6 hf
          refine lv_aload_n hx hb dX12_lost_38 rfl (lv_at hl 0 rfl) ?_
          obtain ⟨G7, h8, hf⟩ := bndO_i hf
          refine s_afV hI (s_runV (rest := []) (As := []) (np := 0) E hK hI (s_B hcl hBs hI) hcl.2 (mE hE eM_0) rfl (c_X12_begin l D K sh ad cy X B hcl hE G L O  h8) kyX12_begin u6_9 u6_11 up_46 (by decide) rfl hl.1 rfl (Nat.le_of_ble_eq_true rfl) ⟨Nat.zero_le _, Nat.zero_le _⟩ dX12_lost_39) (fun H locs hI => ?_)
          refine lv_aload_n hx hb dX12_lost_42 rfl (lv_at hl 0 rfl) ?_
          refine lv_iload_n hx hb dX12_lost_43 rfl (lv_at hl 1 rfl) ?_
          obtain ⟨G9, v10, h11, hf⟩ := bndP_i hf
          refine s_afL hI (s_runV (rest := []) (As := [.int x1]) (np := 1) E hK hI (s_B hcl hBs hI) hcl.2 (mE hE eM_0) rfl (c_X12_badOf l D K sh ad cy X B hcl hE G7 L O x1 h11) kyX12_badOf u6_73 u6_75 up_58 (by decide) rfl hl.1 rfl (Nat.le_of_ble_eq_true rfl) ⟨Nat.zero_le _, Nat.zero_le _⟩ dX12_lost_44) (fun H locs hI => ?_)
          refine lv_lstore (lv' := [(4, .long v10), (0, .ref (ad 0)), (1, .int x1), (2, .int x2), (3, .int x3)]) hx hb dX12_lost_47 hl (by decide) rfl (fun ls hl => ?_)
          refine lv_aload_n hx hb dX12_lost_49 rfl (lv_at hl 1 rfl) ?_
          obtain ⟨G12, h13, hf⟩ := bndO_i hf
          refine s_afV hI (s_runV (rest := []) (As := []) (np := 0) E hK hI (s_B hcl hBs hI) hcl.2 (mE hE eM_0) rfl (c_X12_begin l D K sh ad cy X B hcl hE G9 L O  h13) kyX12_begin u6_9 u6_11 up_46 (by decide) rfl hl.1 rfl (Nat.le_of_ble_eq_true rfl) ⟨Nat.zero_le _, Nat.zero_le _⟩ dX12_lost_50) (fun H locs hI => ?_)
          refine lv_aload_n hx hb dX12_lost_53 rfl (lv_at hl 1 rfl) ?_
          refine lv_iload_n hx hb dX12_lost_54 rfl (lv_at hl 3 rfl) ?_
          obtain ⟨G14, eG14, hf⟩ := bnd_i hf
          refine s_put (ty := .int) hx hb hu inU12 tyX12_ok nmX12 hown hK hI (mE hE eM_0) rfl 36 (by decide) u4_224 (fun _ h => h) rfl rfl (tyX12_ok 36 (by decide)) rfl rfl eG14 dX12_lost_55 (fun H locs hI => ?_)
          refine lv_aload_n hx hb dX12_lost_58 rfl (lv_at hl 1 rfl) ?_
          refine lv_iload_n hx hb dX12_lost_59 rfl (lv_at hl 4 rfl) ?_
          obtain ⟨G15, eG15, hf⟩ := bnd_i hf
          refine s_put (ty := .int) hx hb hu inU12 tyX12_ok nmX12 hown hK hI (mE hE eM_0) rfl 37 (by decide) u4_225 (fun _ h => h) rfl rfl (tyX12_ok 37 (by decide)) rfl rfl eG15 dX12_lost_60 (fun H locs hI => ?_)
          refine lv_aload_n hx hb dX12_lost_63 rfl (lv_at hl 1 rfl) ?_
          refine lv_iload_n hx hb dX12_lost_64 rfl (lv_at hl 2 rfl) ?_
          obtain ⟨G16, v17, h18, hf⟩ := bndP_i hf
          refine s_afL hI (s_runV (rest := []) (As := [.int x1]) (np := 1) E hK hI (s_B hcl hBs hI) hcl.2 (mE hE eM_0) rfl (c_X12_badOf l D K sh ad cy X B hcl hE G15 L O x1 h18) kyX12_badOf u6_73 u6_75 up_58 (by decide) rfl hl.1 rfl (Nat.le_of_ble_eq_true rfl) ⟨Nat.zero_le _, Nat.zero_le _⟩ dX12_lost_65) (fun H locs hI => ?_)
          refine lv_lload hx hb dX12_lost_68 (lv_at hl 0 rfl) ?_
          refine lv_lsub hx hb dX12_lost_70 ?_
          cases hf
          exact s_lret hx hb hr hI.2.2 hI.1 hlocks dX12_lost_71
        · have hf := ite_t c6 hf
          refine lv_ldc2 (v := (-4611686018427387904)) hx hb hown (hu _ u6_72) dX12_lost_34 ?_
          cases hf
          exact s_lret hx hb hr hI.2.2 hI.1 hlocks dX12_lost_37
noncomputable def f_X12_isSheet  (x0 : Int32) : Int32 := (f_X12_in x0 0 3)
theorem b_X12_isSheet (x0 : Int32) : isB (f_X12_isSheet x0) = true := by
  unfold f_X12_isSheet
  first | (repeat' split) <;> rfl | (repeat' split) <;> first | rfl | exact (b_X12_in x0 0 3)
theorem kyX12_isSheet : Ky yX12_isSheet cX12_isSheet 1 (some FieldType.boolean) 1 := ⟨u6_110, u1_15, by decide, by decide, by decide, by decide +kernel⟩
set_option maxHeartbeats 4000000 in
set_option maxRecDepth 100000 in
theorem c_X12_isSheet (l : Launch) (x0 : Int32)  {vz : Int32} (hf : f_X12_isSheet x0 = vz) : Met l yX12_isSheet (wsU yX12_isSheet cX12_isSheet 1 (some FieldType.boolean)) (rmX 2 0 0) (va_Pc [.int x0] (fun _ => True)) (QP vz) 0 0 noA := by
  refine s_met0 (by decide) (Nat.le_of_ble_eq_true rfl) ?_
  intro p e s m args below meth c ls E hl
  have hl : lv_has ls 1 [(0, .int x0)] := hl
  have E : Cx p s m args meth c RX12 cX12_isSheet 1 (some FieldType.boolean) := E
  obtain ⟨hx, hb, hr, hml, hown, hu, hlocks⟩ := id E
  rw [f_X12_isSheet] at hf
  refine lv_iload_n hx hb dX12_isSheet_0 rfl (lv_at hl 0 rfl) ?_
  refine lv_iconst (v := 0) hx hb dX12_isSheet_1 (by decide) ?_
  refine lv_iconst (v := 3) hx hb dX12_isSheet_2 (by decide) ?_
  refine s_cSP (np := 3) (rest := []) E (c_X12_in l x0 0 3 rfl) kyX12_in u5_128 u5_129 (by decide) rfl hl.1 rfl (Nat.le_of_ble_eq_true rfl) ⟨Nat.zero_le _, Nat.zero_le _⟩ dX12_isSheet_3 ?_
  subst hf
  exact s_iretP (isB_i (b_X12_in x0 0 3)) E dX12_isSheet_6
noncomputable def q_X12_who_52 (x1 : Int32) (k40 : (Mem × Int64 × Int32 × Int32) → Option (Mem × Int32)) (rec : (Mem × Int64 × Int32 × Int32 × Int32) → Option (Mem × Int32)) : (Mem × Int64 × Int32 × Int32 × Int32) → Option (Mem × Int32) := fun (G, w2, x4, x5, x6) => (if (G 0 7) ≤ x6 then bnd (x5 + 1) (fun x5_11 => k40 (G, w2, x4, x5_11)) else bndO (f_X12_begin G) (fun G12 => bnd (up2 G12 0 38 x6) (fun G14 => bnd (up2 G14 0 39 x5) (fun G15 => bndP (f_X12_badOf G15 (2 + x1)) (fun G16 v17 => (if (lg_cmp v17 w2) < 0 then bnd ((100 * x6) + x5) (fun x4_20 => bnd (x6 + 1) (fun x6_21 => rec (G16, v17, x4_20, x5, x6_21))) else bnd (x6 + 1) (fun x6_22 => rec (G16, w2, x4, x5, x6_22))))))))
noncomputable def q_X12_who_40 (x1 : Int32)  (rec : (Mem × Int64 × Int32 × Int32) → Option (Mem × Int32)) : (Mem × Int64 × Int32 × Int32) → Option (Mem × Int32) := fun (G, w2, x4, x5) => (if (G 0 1) ≤ x5 then some (G, x4) else iter (q_X12_who_52 x1 rec) fuel (G, w2, x4, x5, 0))
noncomputable def f_X12_who (G : Mem) (x1 : Int32) : Option (Mem × Int32) := (if (f_X12_isSheet x1) = 0 then some (G, (-2)) else chk (inB x1 4) ((if 0 ≤ (G 31 x1.toNatClampNeg) then bndO (f_X12_begin G) (fun G4 => bndP (f_X12_badOf G4 (2 + x1)) (fun G6 v7 => iter (q_X12_who_40 x1) fuel (G6, v7, (-1), 0))) else some (G, (-11)))))
theorem kyX12_who : Ky yX12_who cX12_who 9 (some FieldType.int) 1 := ⟨u6_107, u1_15, by decide, by decide, by decide, by decide +kernel⟩
set_option maxHeartbeats 4000000 in
set_option maxRecDepth 100000 in
theorem c_X12_who (l : Launch) (D : va_G) (K : List Nat) (sh : Nat → Ent) (ad : Nat → Nat) (cy : Nat → ClassId) (X : va_W) (B : State → Prop) (hcl : Bcl (AS K ad X) B) (hE : ∀ q ∈ shM, q.1 ∈ K ∧ sh q.1 = q.2) (G : Mem) (L : MemL) (O : MemO) (x1 : Int32) {Gz : Mem} {vz : Int32} (hf : f_X12_who G x1 = some (Gz, vz)) : Met l yX12_who (wsU yX12_who cX12_who 9 (some FieldType.int)) (rmX 6 0 0) (va_Pc [.ref (ad 0), .int x1] (PS D K sh ad cy X B G L O)) (QI (AS K ad X) (PH D K sh ad cy X Gz L O) vz) 0 0 (AS K ad X) := by
  refine s_met (by decide) (Nat.le_of_ble_eq_true rfl) ?_
  intro p e s m args below meth c ls H locs E hK hBs hnm hI hl
  have hl : lv_has ls 9 [(0, .ref (ad 0)), (1, .int x1)] := hl
  have E : Cx p s m args meth c RX12 cX12_who 9 (some FieldType.int) := E
  obtain ⟨hx, hb, hr, hml, hown, hu, hlocks⟩ := id E
  have B52 : ∀ (k40 : (Mem × Int64 × Int32 × Int32) → Option (Mem × Int32)) (hk40 : ∀ (G : Mem) (w2 : Int64) (x4 : Int32) (x5 : Int32) (H : Heap) (locs : List Loc) (ls : Array Slot), lv_has ls 9 [(0, .ref (ad 0)), (1, .int x1), (2, .long w2), (4, .int x4), (5, .int x5)] → IS D K sh ad cy X (AS K ad X) s.heap H locs G L O → k40 (G, w2, x4, x5) = some (Gz, vz) → W p l e (rmX 6 0 0) s m args below meth c H locs 0 0 (MQ below (QI (AS K ad X) (PH D K sh ad cy X Gz L O) vz) args s 0 0 (AS K ad X)) (F0 m 40 ls [])) (n : Nat) (G : Mem) (w2 : Int64) (x4 : Int32) (x5 : Int32) (x6 : Int32) (H : Heap) (locs : List Loc) (ls : Array Slot), lv_has ls 9 [(0, .ref (ad 0)), (1, .int x1), (2, .long w2), (4, .int x4), (5, .int x5), (6, .int x6)] → IS D K sh ad cy X (AS K ad X) s.heap H locs G L O → iter (q_X12_who_52 x1 k40) n (G, w2, x4, x5, x6) = some (Gz, vz) → W p l e (rmX 6 0 0) s m args below meth c H locs 0 0 (MQ below (QI (AS K ad X) (PH D K sh ad cy X Gz L O) vz) args s 0 0 (AS K ad X)) (F0 m 52 ls []) := by
    intro k40 hk40 n
    induction n with
    | zero => intro G w2 x4 x5 x6 H locs ls hl hI hf; exact iter_0 hf
    | succ n ih =>
      intro G w2 x4 x5 x6 H locs ls hl hI hf
      have hf : q_X12_who_52 x1 k40 (iter (q_X12_who_52 x1 k40) n) (G, w2, x4, x5, x6) = some (Gz, vz) := hf
      rw [q_X12_who_52] at hf
      refine lv_iload hx hb dX12_who_52 (lv_at hl 5 rfl) ?_
      refine lv_aload_n hx hb dX12_who_54 rfl (lv_at hl 0 rfl) ?_
      refine s_get (v := .int (G 0 7)) hx hb hu inU12 hown hK hI (mE hE eM_0) rfl 7 (by decide) u4_195 (fun _ h => h) rfl rfl dX12_who_55 ?_
      refine lv_icmp_ge (tgt := 115) hx hb dX12_who_58 (by decide) (fun c10 => ?_) (fun c10 => ?_)
      · have hf := ite_t c10 hf
        obtain ⟨x5_11, ex5_11, hf⟩ := bnd_i hf
        refine lv_iinc (v := x5_11) (lv' := [(5, .int x5_11), (0, .ref (ad 0)), (1, .int x1), (2, .long w2), (4, .int x4), (6, .int x6)]) hx hb dX12_who_115 hl (k := 4) rfl (by rw [ex5_11]; rfl) (by decide) rfl (fun ls hl => ?_)
        refine lv_goto (tgt := 40) hx hb dX12_who_118 (by decide) ?_
        exact hk40 G w2 x4 x5_11 H locs ls (lv_sub hl [1, 2, 3, 4, 0] rfl) hI hf
      · have hf := ite_f c10 hf
        refine lv_aload_n hx hb dX12_who_61 rfl (lv_at hl 0 rfl) ?_
        obtain ⟨G12, h13, hf⟩ := bndO_i hf
        refine s_afV hI (s_runV (rest := []) (As := []) (np := 0) E hK hI (s_B hcl hBs hI) hcl.2 (mE hE eM_0) rfl (c_X12_begin l D K sh ad cy X B hcl hE G L O  h13) kyX12_begin u6_9 u6_11 up_46 (by decide) rfl hl.1 rfl (Nat.le_of_ble_eq_true rfl) ⟨Nat.zero_le _, Nat.zero_le _⟩ dX12_who_62) (fun H locs hI => ?_)
        refine lv_aload_n hx hb dX12_who_65 rfl (lv_at hl 0 rfl) ?_
        refine lv_iload hx hb dX12_who_66 (lv_at hl 5 rfl) ?_
        obtain ⟨G14, eG14, hf⟩ := bnd_i hf
        refine s_put (ty := .int) hx hb hu inU12 tyX12_ok nmX12 hown hK hI (mE hE eM_0) rfl 38 (by decide) u4_226 (fun _ h => h) rfl rfl (tyX12_ok 38 (by decide)) rfl rfl eG14 dX12_who_68 (fun H locs hI => ?_)
        refine lv_aload_n hx hb dX12_who_71 rfl (lv_at hl 0 rfl) ?_
        refine lv_iload hx hb dX12_who_72 (lv_at hl 4 rfl) ?_
        obtain ⟨G15, eG15, hf⟩ := bnd_i hf
        refine s_put (ty := .int) hx hb hu inU12 tyX12_ok nmX12 hown hK hI (mE hE eM_0) rfl 39 (by decide) u4_227 (fun _ h => h) rfl rfl (tyX12_ok 39 (by decide)) rfl rfl eG15 dX12_who_74 (fun H locs hI => ?_)
        refine lv_aload_n hx hb dX12_who_77 rfl (lv_at hl 0 rfl) ?_
        refine lv_iconst (v := 2) hx hb dX12_who_78 (by decide) ?_
        refine lv_iload_n hx hb dX12_who_79 rfl (lv_at hl 1 rfl) ?_
        refine lv_iadd hx hb dX12_who_80 ?_
        obtain ⟨G16, v17, h18, hf⟩ := bndP_i hf
        refine s_afL hI (s_runV (rest := []) (As := [.int (2 + x1)]) (np := 1) E hK hI (s_B hcl hBs hI) hcl.2 (mE hE eM_0) rfl (c_X12_badOf l D K sh ad cy X B hcl hE G15 L O (2 + x1) h18) kyX12_badOf u6_73 u6_75 up_58 (by decide) rfl hl.1 rfl (Nat.le_of_ble_eq_true rfl) ⟨Nat.zero_le _, Nat.zero_le _⟩ dX12_who_81) (fun H locs hI => ?_)
        refine lv_lstore (lv' := [(7, .long v17), (0, .ref (ad 0)), (1, .int x1), (2, .long w2), (4, .int x4), (5, .int x5), (6, .int x6)]) hx hb dX12_who_84 hl (by decide) rfl (fun ls hl => ?_)
        refine lv_lload hx hb dX12_who_86 (lv_at hl 0 rfl) ?_
        refine lv_lload_n hx hb dX12_who_88 rfl (lv_at hl 3 rfl) ?_
        refine W.lcmp hx hb dX12_who_89 ?_
        refine lv_if_lt (tgt := 96) hx hb dX12_who_90 (by decide) (fun c19 => ?_) (fun c19 => ?_)
        · have hf := ite_t c19 hf
          refine lv_lload hx hb dX12_who_96 (lv_at hl 0 rfl) ?_
          refine lv_lstore_n (lv' := [(2, .long v17), (7, .long v17), (0, .ref (ad 0)), (1, .int x1), (4, .int x4), (5, .int x5), (6, .int x6)]) hx hb dX12_who_98 rfl hl (by decide) rfl (fun ls hl => ?_)
          refine lv_bipush (v := 100) hx hb dX12_who_99 (by decide) ?_
          refine lv_iload hx hb dX12_who_101 (lv_at hl 6 rfl) ?_
          refine lv_imul hx hb dX12_who_103 ?_
          refine lv_iload hx hb dX12_who_104 (lv_at hl 5 rfl) ?_
          refine lv_iadd hx hb dX12_who_106 ?_
          obtain ⟨x4_20, ex4_20, hf⟩ := bnd_i hf
          refine s_nmI ex4_20 ?_
          refine lv_istore (lv' := [(4, .int x4_20), (2, .long v17), (7, .long v17), (0, .ref (ad 0)), (1, .int x1), (5, .int x5), (6, .int x6)]) hx hb dX12_who_107 hl (by decide) rfl (fun ls hl => ?_)
          obtain ⟨x6_21, ex6_21, hf⟩ := bnd_i hf
          refine lv_iinc (v := x6_21) (lv' := [(6, .int x6_21), (4, .int x4_20), (2, .long v17), (7, .long v17), (0, .ref (ad 0)), (1, .int x1), (5, .int x5)]) hx hb dX12_who_109 hl (k := 6) rfl (by rw [ex6_21]; rfl) (by decide) rfl (fun ls hl => ?_)
          refine lv_goto (tgt := 52) hx hb dX12_who_112 (by decide) ?_
          exact ih G16 v17 x4_20 x5 x6_21 H locs ls (lv_sub hl [4, 5, 2, 1, 6, 0] rfl) hI hf
        · have hf := ite_f c19 hf
          refine lv_goto (tgt := 109) hx hb dX12_who_93 (by decide) ?_
          obtain ⟨x6_22, ex6_22, hf⟩ := bnd_i hf
          refine lv_iinc (v := x6_22) (lv' := [(6, .int x6_22), (7, .long v17), (0, .ref (ad 0)), (1, .int x1), (2, .long w2), (4, .int x4), (5, .int x5)]) hx hb dX12_who_109 hl (k := 6) rfl (by rw [ex6_22]; rfl) (by decide) rfl (fun ls hl => ?_)
          refine lv_goto (tgt := 52) hx hb dX12_who_112 (by decide) ?_
          exact ih G16 w2 x4 x5 x6_22 H locs ls (lv_sub hl [2, 3, 4, 5, 6, 0] rfl) hI hf
  have B40 : ∀   (n : Nat) (G : Mem) (w2 : Int64) (x4 : Int32) (x5 : Int32) (H : Heap) (locs : List Loc) (ls : Array Slot), lv_has ls 9 [(0, .ref (ad 0)), (1, .int x1), (2, .long w2), (4, .int x4), (5, .int x5)] → IS D K sh ad cy X (AS K ad X) s.heap H locs G L O → iter (q_X12_who_40 x1) n (G, w2, x4, x5) = some (Gz, vz) → W p l e (rmX 6 0 0) s m args below meth c H locs 0 0 (MQ below (QI (AS K ad X) (PH D K sh ad cy X Gz L O) vz) args s 0 0 (AS K ad X)) (F0 m 40 ls []) := by
    intro n
    induction n with
    | zero => intro G w2 x4 x5 H locs ls hl hI hf; exact iter_0 hf
    | succ n ih =>
      intro G w2 x4 x5 H locs ls hl hI hf
      have hf : q_X12_who_40 x1 (iter (q_X12_who_40 x1) n) (G, w2, x4, x5) = some (Gz, vz) := hf
      rw [q_X12_who_40] at hf
      refine lv_iload hx hb dX12_who_40 (lv_at hl 4 rfl) ?_
      refine lv_aload_n hx hb dX12_who_42 rfl (lv_at hl 0 rfl) ?_
      refine s_get (v := .int (G 0 1)) hx hb hu inU12 hown hK hI (mE hE eM_0) rfl 1 (by decide) u4_189 (fun _ h => h) rfl rfl dX12_who_43 ?_
      refine lv_icmp_ge (tgt := 121) hx hb dX12_who_46 (by decide) (fun c9 => ?_) (fun c9 => ?_)
      · have hf := ite_t c9 hf
        refine lv_iload hx hb dX12_who_121 (lv_at hl 3 rfl) ?_
        cases hf
        exact s_iret hx hb hr hI.2.2 hI.1 hlocks dX12_who_123
      · have hf := ite_f c9 hf
        refine lv_iconst (v := 0) hx hb dX12_who_49 (by decide) ?_
        refine lv_istore (lv' := [(6, .int 0), (0, .ref (ad 0)), (1, .int x1), (2, .long w2), (4, .int x4), (5, .int x5)]) hx hb dX12_who_50 hl (by decide) rfl (fun ls hl => ?_)
        exact B52 _ ih fuel G w2 x4 x5 0 H locs ls (lv_sub hl [1, 2, 3, 4, 5, 0] rfl) hI hf
  rw [f_X12_who] at hf
  refine lv_iload_n hx hb dX12_who_0 rfl (lv_at hl 1 rfl) ?_
  refine s_cSP (np := 1) (rest := []) E (c_X12_isSheet l x1 rfl) kyX12_isSheet u6_108 u6_109 (by decide) rfl hl.1 rfl (Nat.le_of_ble_eq_true rfl) ⟨Nat.zero_le _, Nat.zero_le _⟩ dX12_who_1 ?_
  refine lv_if_ne (tgt := 10) hx hb dX12_who_4 (by decide) (fun c1 => ?_) (fun c1 => ?_)
  · have hf := ite_f c1 hf
    refine lv_aload_n hx hb dX12_who_10 rfl (lv_at hl 0 rfl) ?_
    refine s_get (v := .ref (ad 31)) hx hb hu inU12 hown hK hI (mE hE eM_0) rfl 54 (by decide) u5_2 (fun _ h => h) rfl rfl dX12_who_11 ?_
    refine lv_iload_n hx hb dX12_who_14 rfl (lv_at hl 1 rfl) ?_
    obtain ⟨h2, hf⟩ := chk_i hf
    refine s_ild hx hb hK hI (mE hE eM_31) (inB_i h2) dX12_who_15 ?_
    refine lv_if_ge (tgt := 22) hx hb dX12_who_16 (by decide) (fun c3 => ?_) (fun c3 => ?_)
    · have hf := ite_t c3 hf
      refine lv_aload_n hx hb dX12_who_22 rfl (lv_at hl 0 rfl) ?_
      obtain ⟨G4, h5, hf⟩ := bndO_i hf
      refine s_afV hI (s_runV (rest := []) (As := []) (np := 0) E hK hI (s_B hcl hBs hI) hcl.2 (mE hE eM_0) rfl (c_X12_begin l D K sh ad cy X B hcl hE G L O  h5) kyX12_begin u6_9 u6_11 up_46 (by decide) rfl hl.1 rfl (Nat.le_of_ble_eq_true rfl) ⟨Nat.zero_le _, Nat.zero_le _⟩ dX12_who_23) (fun H locs hI => ?_)
      refine lv_aload_n hx hb dX12_who_26 rfl (lv_at hl 0 rfl) ?_
      refine lv_iconst (v := 2) hx hb dX12_who_27 (by decide) ?_
      refine lv_iload_n hx hb dX12_who_28 rfl (lv_at hl 1 rfl) ?_
      refine lv_iadd hx hb dX12_who_29 ?_
      obtain ⟨G6, v7, h8, hf⟩ := bndP_i hf
      refine s_afL hI (s_runV (rest := []) (As := [.int (2 + x1)]) (np := 1) E hK hI (s_B hcl hBs hI) hcl.2 (mE hE eM_0) rfl (c_X12_badOf l D K sh ad cy X B hcl hE G4 L O (2 + x1) h8) kyX12_badOf u6_73 u6_75 up_58 (by decide) rfl hl.1 rfl (Nat.le_of_ble_eq_true rfl) ⟨Nat.zero_le _, Nat.zero_le _⟩ dX12_who_30) (fun H locs hI => ?_)
      refine lv_lstore_n (lv' := [(2, .long v7), (0, .ref (ad 0)), (1, .int x1)]) hx hb dX12_who_33 rfl hl (by decide) rfl (fun ls hl => ?_)
      refine lv_iconst (v := (-1)) hx hb dX12_who_34 (by decide) ?_
      refine lv_istore (lv' := [(4, .int (-1)), (2, .long v7), (0, .ref (ad 0)), (1, .int x1)]) hx hb dX12_who_35 hl (by decide) rfl (fun ls hl => ?_)
      refine lv_iconst (v := 0) hx hb dX12_who_37 (by decide) ?_
      refine lv_istore (lv' := [(5, .int 0), (4, .int (-1)), (2, .long v7), (0, .ref (ad 0)), (1, .int x1)]) hx hb dX12_who_38 hl (by decide) rfl (fun ls hl => ?_)
      exact B40   fuel G6 v7 (-1) 0 H locs ls (lv_sub hl [3, 4, 2, 1, 0] rfl) hI hf
    · have hf := ite_f c3 hf
      refine lv_bipush (v := (-11)) hx hb dX12_who_19 (by decide) ?_
      cases hf
      exact s_iret hx hb hr hI.2.2 hI.1 hlocks dX12_who_21
  · have hf := ite_t c1 hf
    refine lv_bipush (v := (-2)) hx hb dX12_who_7 (by decide) ?_
    cases hf
    exact s_iret hx hb hr hI.2.2 hI.1 hlocks dX12_who_9
noncomputable def q_X12_image_114   (rec : (Mem × Int32) → Option (Mem × Int32)) : (Mem × Int32) → Option (Mem × Int32) := fun (G, x1) => (if 10 ≤ x1 then some (G, (G 0 7)) else chk (inB x1 10) (chk (inB x1 10) (bnd (up2 G 30 x1.toNatClampNeg (G 6 x1.toNatClampNeg)) (fun G11 => bnd (x1 + 1) (fun x1_12 => rec (G11, x1_12))))))
noncomputable def q_X12_image_89   (rec : (Mem × Int32) → Option (Mem × Int32)) : (Mem × Int32) → Option (Mem × Int32) := fun (G, x1) => (if 4 ≤ x1 then iter (q_X12_image_114) fuel (G, 0) else chk (inB x1 4) (chk (inB x1 4) (bnd (up2 G 29 x1.toNatClampNeg (G 4 x1.toNatClampNeg)) (fun G15 => bnd (x1 + 1) (fun x1_16 => rec (G15, x1_16))))))
noncomputable def q_X12_image_39   (rec : (Mem × Int32) → Option (Mem × Int32)) : (Mem × Int32) → Option (Mem × Int32) := fun (G, x1) => (if 48 ≤ x1 then iter (q_X12_image_89) fuel (G, 0) else chk (inB x1 48) (chk (inB x1 48) (bnd (up2 G 26 x1.toNatClampNeg (G 1 x1.toNatClampNeg)) (fun G19 => chk (inB x1 48) (chk (inB x1 48) (bnd (up2 G19 27 x1.toNatClampNeg (G19 2 x1.toNatClampNeg)) (fun G22 => chk (inB x1 48) (chk (inB x1 48) (bnd (up2 G22 28 x1.toNatClampNeg (G22 3 x1.toNatClampNeg)) (fun G25 => bnd (x1 + 1) (fun x1_26 => rec (G25, x1_26))))))))))))
noncomputable def f_X12_image (G : Mem)  : Option (Mem × Int32) := bnd (up2 G 0 44 1) (fun G1 => bnd (up2 G1 0 45 (G1 0 1)) (fun G2 => bnd (up2 G2 0 46 (G2 0 2)) (fun G3 => bnd (up2 G3 0 47 (G3 0 16)) (fun G4 => bnd (up2 G4 0 48 (G4 0 7)) (fun G5 => iter (q_X12_image_39) fuel (G5, 0))))))
theorem kyX12_image : Ky yX12_image cX12_image 2 (some FieldType.int) 0 := ⟨u6_114, u1_15, by decide, by decide, by decide, by decide +kernel⟩
set_option maxHeartbeats 4000000 in
set_option maxRecDepth 100000 in
theorem c_X12_image (l : Launch) (D : va_G) (K : List Nat) (sh : Nat → Ent) (ad : Nat → Nat) (cy : Nat → ClassId) (X : va_W) (B : State → Prop) (hcl : Bcl (AS K ad X) B) (hE : ∀ q ∈ shM, q.1 ∈ K ∧ sh q.1 = q.2) (G : Mem) (L : MemL) (O : MemO)  {Gz : Mem} {vz : Int32} (hf : f_X12_image G = some (Gz, vz)) : Met l yX12_image (wsU yX12_image cX12_image 2 (some FieldType.int)) (rmX 1 0 0) (va_Pc [.ref (ad 0)] (PS D K sh ad cy X B G L O)) (QI (AS K ad X) (PH D K sh ad cy X Gz L O) vz) 0 0 (AS K ad X) := by
  refine s_met (by decide) (Nat.le_of_ble_eq_true rfl) ?_
  intro p e s m args below meth c ls H locs E hK hBs hnm hI hl
  have hl : lv_has ls 2 [(0, .ref (ad 0))] := hl
  have E : Cx p s m args meth c RX12 cX12_image 2 (some FieldType.int) := E
  obtain ⟨hx, hb, hr, hml, hown, hu, hlocks⟩ := id E
  have B114 : ∀   (n : Nat) (G : Mem) (x1 : Int32) (H : Heap) (locs : List Loc) (ls : Array Slot), lv_has ls 2 [(0, .ref (ad 0)), (1, .int x1)] → IS D K sh ad cy X (AS K ad X) s.heap H locs G L O → iter (q_X12_image_114) n (G, x1) = some (Gz, vz) → W p l e (rmX 1 0 0) s m args below meth c H locs 0 0 (MQ below (QI (AS K ad X) (PH D K sh ad cy X Gz L O) vz) args s 0 0 (AS K ad X)) (F0 m 114 ls []) := by
    intro n
    induction n with
    | zero => intro G x1 H locs ls hl hI hf; exact iter_0 hf
    | succ n ih =>
      intro G x1 H locs ls hl hI hf
      have hf : q_X12_image_114 (iter (q_X12_image_114) n) (G, x1) = some (Gz, vz) := hf
      rw [q_X12_image_114] at hf
      refine lv_iload_n hx hb dX12_image_114 rfl (lv_at hl 1 rfl) ?_
      refine lv_bipush (v := 10) hx hb dX12_image_115 (by decide) ?_
      refine lv_icmp_ge (tgt := 138) hx hb dX12_image_117 (by decide) (fun c8 => ?_) (fun c8 => ?_)
      · have hf := ite_t c8 hf
        refine lv_aload_n hx hb dX12_image_138 rfl (lv_at hl 0 rfl) ?_
        refine s_get (v := .int (G 0 7)) hx hb hu inU12 hown hK hI (mE hE eM_0) rfl 7 (by decide) u4_195 (fun _ h => h) rfl rfl dX12_image_139 ?_
        cases hf
        exact s_iret hx hb hr hI.2.2 hI.1 hlocks dX12_image_142
      · have hf := ite_f c8 hf
        refine lv_aload_n hx hb dX12_image_120 rfl (lv_at hl 0 rfl) ?_
        refine s_get (v := .ref (ad 30)) hx hb hu inU12 hown hK hI (mE hE eM_0) rfl 53 (by decide) u5_1 (fun _ h => h) rfl rfl dX12_image_121 ?_
        refine lv_iload_n hx hb dX12_image_124 rfl (lv_at hl 1 rfl) ?_
        refine lv_aload_n hx hb dX12_image_125 rfl (lv_at hl 0 rfl) ?_
        refine s_get (v := .ref (ad 6)) hx hb hu inU12 hown hK hI (mE hE eM_0) rfl 9 (by decide) u4_197 (fun _ h => h) rfl rfl dX12_image_126 ?_
        refine lv_iload_n hx hb dX12_image_129 rfl (lv_at hl 1 rfl) ?_
        obtain ⟨h9, hf⟩ := chk_i hf
        refine s_ild hx hb hK hI (mE hE eM_6) (inB_i h9) dX12_image_130 ?_
        obtain ⟨h10, hf⟩ := chk_i hf
        obtain ⟨G11, eG11, hf⟩ := bnd_i hf
        refine s_ist hx hb hK hI (mE hE eM_30) (inB_i h10) eG11 dX12_image_131 (fun H locs hI => ?_)
        obtain ⟨x1_12, ex1_12, hf⟩ := bnd_i hf
        refine lv_iinc (v := x1_12) (lv' := [(1, .int x1_12), (0, .ref (ad 0))]) hx hb dX12_image_132 hl (k := 1) rfl (by rw [ex1_12]; rfl) (by decide) rfl (fun ls hl => ?_)
        refine lv_goto (tgt := 114) hx hb dX12_image_135 (by decide) ?_
        exact ih G11 x1_12 H locs ls (lv_sub hl [1, 0] rfl) hI hf
  have B89 : ∀   (n : Nat) (G : Mem) (x1 : Int32) (H : Heap) (locs : List Loc) (ls : Array Slot), lv_has ls 2 [(0, .ref (ad 0)), (1, .int x1)] → IS D K sh ad cy X (AS K ad X) s.heap H locs G L O → iter (q_X12_image_89) n (G, x1) = some (Gz, vz) → W p l e (rmX 1 0 0) s m args below meth c H locs 0 0 (MQ below (QI (AS K ad X) (PH D K sh ad cy X Gz L O) vz) args s 0 0 (AS K ad X)) (F0 m 89 ls []) := by
    intro n
    induction n with
    | zero => intro G x1 H locs ls hl hI hf; exact iter_0 hf
    | succ n ih =>
      intro G x1 H locs ls hl hI hf
      have hf : q_X12_image_89 (iter (q_X12_image_89) n) (G, x1) = some (Gz, vz) := hf
      rw [q_X12_image_89] at hf
      refine lv_iload_n hx hb dX12_image_89 rfl (lv_at hl 1 rfl) ?_
      refine lv_iconst (v := 4) hx hb dX12_image_90 (by decide) ?_
      refine lv_icmp_ge (tgt := 112) hx hb dX12_image_91 (by decide) (fun c7 => ?_) (fun c7 => ?_)
      · have hf := ite_t c7 hf
        refine lv_iconst (v := 0) hx hb dX12_image_112 (by decide) ?_
        refine lv_istore_n (lv' := [(1, .int 0), (0, .ref (ad 0))]) hx hb dX12_image_113 rfl hl (by decide) rfl (fun ls hl => ?_)
        exact B114   fuel G 0 H locs ls (lv_sub hl [1, 0] rfl) hI hf
      · have hf := ite_f c7 hf
        refine lv_aload_n hx hb dX12_image_94 rfl (lv_at hl 0 rfl) ?_
        refine s_get (v := .ref (ad 29)) hx hb hu inU12 hown hK hI (mE hE eM_0) rfl 52 (by decide) u5_0 (fun _ h => h) rfl rfl dX12_image_95 ?_
        refine lv_iload_n hx hb dX12_image_98 rfl (lv_at hl 1 rfl) ?_
        refine lv_aload_n hx hb dX12_image_99 rfl (lv_at hl 0 rfl) ?_
        refine s_get (v := .ref (ad 4)) hx hb hu inU12 hown hK hI (mE hE eM_0) rfl 6 (by decide) u4_194 (fun _ h => h) rfl rfl dX12_image_100 ?_
        refine lv_iload_n hx hb dX12_image_103 rfl (lv_at hl 1 rfl) ?_
        obtain ⟨h13, hf⟩ := chk_i hf
        refine s_ild hx hb hK hI (mE hE eM_4) (inB_i h13) dX12_image_104 ?_
        obtain ⟨h14, hf⟩ := chk_i hf
        obtain ⟨G15, eG15, hf⟩ := bnd_i hf
        refine s_ist hx hb hK hI (mE hE eM_29) (inB_i h14) eG15 dX12_image_105 (fun H locs hI => ?_)
        obtain ⟨x1_16, ex1_16, hf⟩ := bnd_i hf
        refine lv_iinc (v := x1_16) (lv' := [(1, .int x1_16), (0, .ref (ad 0))]) hx hb dX12_image_106 hl (k := 1) rfl (by rw [ex1_16]; rfl) (by decide) rfl (fun ls hl => ?_)
        refine lv_goto (tgt := 89) hx hb dX12_image_109 (by decide) ?_
        exact ih G15 x1_16 H locs ls (lv_sub hl [1, 0] rfl) hI hf
  have B39 : ∀   (n : Nat) (G : Mem) (x1 : Int32) (H : Heap) (locs : List Loc) (ls : Array Slot), lv_has ls 2 [(0, .ref (ad 0)), (1, .int x1)] → IS D K sh ad cy X (AS K ad X) s.heap H locs G L O → iter (q_X12_image_39) n (G, x1) = some (Gz, vz) → W p l e (rmX 1 0 0) s m args below meth c H locs 0 0 (MQ below (QI (AS K ad X) (PH D K sh ad cy X Gz L O) vz) args s 0 0 (AS K ad X)) (F0 m 39 ls []) := by
    intro n
    induction n with
    | zero => intro G x1 H locs ls hl hI hf; exact iter_0 hf
    | succ n ih =>
      intro G x1 H locs ls hl hI hf
      have hf : q_X12_image_39 (iter (q_X12_image_39) n) (G, x1) = some (Gz, vz) := hf
      rw [q_X12_image_39] at hf
      refine lv_iload_n hx hb dX12_image_39 rfl (lv_at hl 1 rfl) ?_
      refine lv_bipush (v := 48) hx hb dX12_image_40 (by decide) ?_
      refine lv_icmp_ge (tgt := 87) hx hb dX12_image_42 (by decide) (fun c6 => ?_) (fun c6 => ?_)
      · have hf := ite_t c6 hf
        refine lv_iconst (v := 0) hx hb dX12_image_87 (by decide) ?_
        refine lv_istore_n (lv' := [(1, .int 0), (0, .ref (ad 0))]) hx hb dX12_image_88 rfl hl (by decide) rfl (fun ls hl => ?_)
        exact B89   fuel G 0 H locs ls (lv_sub hl [1, 0] rfl) hI hf
      · have hf := ite_f c6 hf
        refine lv_aload_n hx hb dX12_image_45 rfl (lv_at hl 0 rfl) ?_
        refine s_get (v := .ref (ad 26)) hx hb hu inU12 hown hK hI (mE hE eM_0) rfl 49 (by decide) u4_237 (fun _ h => h) rfl rfl dX12_image_46 ?_
        refine lv_iload_n hx hb dX12_image_49 rfl (lv_at hl 1 rfl) ?_
        refine lv_aload_n hx hb dX12_image_50 rfl (lv_at hl 0 rfl) ?_
        refine s_get (v := .ref (ad 1)) hx hb hu inU12 hown hK hI (mE hE eM_0) rfl 3 (by decide) u4_191 (fun _ h => h) rfl rfl dX12_image_51 ?_
        refine lv_iload_n hx hb dX12_image_54 rfl (lv_at hl 1 rfl) ?_
        obtain ⟨h17, hf⟩ := chk_i hf
        refine s_ild hx hb hK hI (mE hE eM_1) (inB_i h17) dX12_image_55 ?_
        obtain ⟨h18, hf⟩ := chk_i hf
        obtain ⟨G19, eG19, hf⟩ := bnd_i hf
        refine s_ist hx hb hK hI (mE hE eM_26) (inB_i h18) eG19 dX12_image_56 (fun H locs hI => ?_)
        refine lv_aload_n hx hb dX12_image_57 rfl (lv_at hl 0 rfl) ?_
        refine s_get (v := .ref (ad 27)) hx hb hu inU12 hown hK hI (mE hE eM_0) rfl 50 (by decide) u4_238 (fun _ h => h) rfl rfl dX12_image_58 ?_
        refine lv_iload_n hx hb dX12_image_61 rfl (lv_at hl 1 rfl) ?_
        refine lv_aload_n hx hb dX12_image_62 rfl (lv_at hl 0 rfl) ?_
        refine s_get (v := .ref (ad 2)) hx hb hu inU12 hown hK hI (mE hE eM_0) rfl 4 (by decide) u4_192 (fun _ h => h) rfl rfl dX12_image_63 ?_
        refine lv_iload_n hx hb dX12_image_66 rfl (lv_at hl 1 rfl) ?_
        obtain ⟨h20, hf⟩ := chk_i hf
        refine s_ild hx hb hK hI (mE hE eM_2) (inB_i h20) dX12_image_67 ?_
        obtain ⟨h21, hf⟩ := chk_i hf
        obtain ⟨G22, eG22, hf⟩ := bnd_i hf
        refine s_ist hx hb hK hI (mE hE eM_27) (inB_i h21) eG22 dX12_image_68 (fun H locs hI => ?_)
        refine lv_aload_n hx hb dX12_image_69 rfl (lv_at hl 0 rfl) ?_
        refine s_get (v := .ref (ad 28)) hx hb hu inU12 hown hK hI (mE hE eM_0) rfl 51 (by decide) u4_239 (fun _ h => h) rfl rfl dX12_image_70 ?_
        refine lv_iload_n hx hb dX12_image_73 rfl (lv_at hl 1 rfl) ?_
        refine lv_aload_n hx hb dX12_image_74 rfl (lv_at hl 0 rfl) ?_
        refine s_get (v := .ref (ad 3)) hx hb hu inU12 hown hK hI (mE hE eM_0) rfl 5 (by decide) u4_193 (fun _ h => h) rfl rfl dX12_image_75 ?_
        refine lv_iload_n hx hb dX12_image_78 rfl (lv_at hl 1 rfl) ?_
        obtain ⟨h23, hf⟩ := chk_i hf
        refine s_ild hx hb hK hI (mE hE eM_3) (inB_i h23) dX12_image_79 ?_
        obtain ⟨h24, hf⟩ := chk_i hf
        obtain ⟨G25, eG25, hf⟩ := bnd_i hf
        refine s_ist hx hb hK hI (mE hE eM_28) (inB_i h24) eG25 dX12_image_80 (fun H locs hI => ?_)
        obtain ⟨x1_26, ex1_26, hf⟩ := bnd_i hf
        refine lv_iinc (v := x1_26) (lv' := [(1, .int x1_26), (0, .ref (ad 0))]) hx hb dX12_image_81 hl (k := 1) rfl (by rw [ex1_26]; rfl) (by decide) rfl (fun ls hl => ?_)
        refine lv_goto (tgt := 39) hx hb dX12_image_84 (by decide) ?_
        exact ih G25 x1_26 H locs ls (lv_sub hl [1, 0] rfl) hI hf
  rw [f_X12_image] at hf
  refine lv_aload_n hx hb dX12_image_0 rfl (lv_at hl 0 rfl) ?_
  refine lv_iconst (v := 1) hx hb dX12_image_1 (by decide) ?_
  obtain ⟨G1, eG1, hf⟩ := bnd_i hf
  refine s_put (ty := .boolean) hx hb hu inU12 tyX12_ok nmX12 hown hK hI (mE hE eM_0) rfl 44 (by decide) u4_232 (fun _ h => h) rfl rfl (tyX12_ok 44 (by decide)) rfl rfl eG1 dX12_image_2 (fun H locs hI => ?_)
  refine lv_aload_n hx hb dX12_image_5 rfl (lv_at hl 0 rfl) ?_
  refine lv_aload_n hx hb dX12_image_6 rfl (lv_at hl 0 rfl) ?_
  refine s_get (v := .int (G1 0 1)) hx hb hu inU12 hown hK hI (mE hE eM_0) rfl 1 (by decide) u4_189 (fun _ h => h) rfl rfl dX12_image_7 ?_
  obtain ⟨G2, eG2, hf⟩ := bnd_i hf
  refine s_put (ty := .int) hx hb hu inU12 tyX12_ok nmX12 hown hK hI (mE hE eM_0) rfl 45 (by decide) u4_233 (fun _ h => h) rfl rfl (tyX12_ok 45 (by decide)) rfl rfl eG2 dX12_image_10 (fun H locs hI => ?_)
  refine lv_aload_n hx hb dX12_image_13 rfl (lv_at hl 0 rfl) ?_
  refine lv_aload_n hx hb dX12_image_14 rfl (lv_at hl 0 rfl) ?_
  refine s_get (v := .int (G2 0 2)) hx hb hu inU12 hown hK hI (mE hE eM_0) rfl 2 (by decide) u4_190 (fun _ h => h) rfl rfl dX12_image_15 ?_
  obtain ⟨G3, eG3, hf⟩ := bnd_i hf
  refine s_put (ty := .int) hx hb hu inU12 tyX12_ok nmX12 hown hK hI (mE hE eM_0) rfl 46 (by decide) u4_234 (fun _ h => h) rfl rfl (tyX12_ok 46 (by decide)) rfl rfl eG3 dX12_image_18 (fun H locs hI => ?_)
  refine lv_aload_n hx hb dX12_image_21 rfl (lv_at hl 0 rfl) ?_
  refine lv_aload_n hx hb dX12_image_22 rfl (lv_at hl 0 rfl) ?_
  refine s_get (v := .int (G3 0 16)) hx hb hu inU12 hown hK hI (mE hE eM_0) rfl 16 (by decide) u4_204 (fun _ h => h) rfl rfl dX12_image_23 ?_
  obtain ⟨G4, eG4, hf⟩ := bnd_i hf
  refine s_put (ty := .int) hx hb hu inU12 tyX12_ok nmX12 hown hK hI (mE hE eM_0) rfl 47 (by decide) u4_235 (fun _ h => h) rfl rfl (tyX12_ok 47 (by decide)) rfl rfl eG4 dX12_image_26 (fun H locs hI => ?_)
  refine lv_aload_n hx hb dX12_image_29 rfl (lv_at hl 0 rfl) ?_
  refine lv_aload_n hx hb dX12_image_30 rfl (lv_at hl 0 rfl) ?_
  refine s_get (v := .int (G4 0 7)) hx hb hu inU12 hown hK hI (mE hE eM_0) rfl 7 (by decide) u4_195 (fun _ h => h) rfl rfl dX12_image_31 ?_
  obtain ⟨G5, eG5, hf⟩ := bnd_i hf
  refine s_put (ty := .int) hx hb hu inU12 tyX12_ok nmX12 hown hK hI (mE hE eM_0) rfl 48 (by decide) u4_236 (fun _ h => h) rfl rfl (tyX12_ok 48 (by decide)) rfl rfl eG5 dX12_image_34 (fun H locs hI => ?_)
  refine lv_iconst (v := 0) hx hb dX12_image_37 (by decide) ?_
  refine lv_istore_n (lv' := [(1, .int 0), (0, .ref (ad 0))]) hx hb dX12_image_38 rfl hl (by decide) rfl (fun ls hl => ?_)
  exact B39   fuel G5 0 H locs ls (lv_sub hl [1, 0] rfl) hI hf
noncomputable def q_X12_back_111   (rec : (Mem × Int32) → Option (Mem × Int32)) : (Mem × Int32) → Option (Mem × Int32) := fun (G, x1) => (if (G 0 48) ≤ x1 then some (G, (G 0 7)) else chk (inB x1 10) (chk (inB x1 10) (bnd (up2 G 6 x1.toNatClampNeg (G 30 x1.toNatClampNeg)) (fun G10 => bnd (x1 + 1) (fun x1_11 => rec (G10, x1_11))))))
noncomputable def q_X12_back_86   (rec : (Mem × Int32) → Option (Mem × Int32)) : (Mem × Int32) → Option (Mem × Int32) := fun (G, x1) => (if 4 ≤ x1 then iter (q_X12_back_111) fuel (G, 0) else chk (inB x1 4) (chk (inB x1 4) (bnd (up2 G 4 x1.toNatClampNeg (G 29 x1.toNatClampNeg)) (fun G14 => bnd (x1 + 1) (fun x1_15 => rec (G14, x1_15))))))
noncomputable def q_X12_back_36   (rec : (Mem × Int32) → Option (Mem × Int32)) : (Mem × Int32) → Option (Mem × Int32) := fun (G, x1) => (if 48 ≤ x1 then iter (q_X12_back_86) fuel (G, 0) else chk (inB x1 48) (chk (inB x1 48) (bnd (up2 G 1 x1.toNatClampNeg (G 26 x1.toNatClampNeg)) (fun G18 => chk (inB x1 48) (chk (inB x1 48) (bnd (up2 G18 2 x1.toNatClampNeg (G18 27 x1.toNatClampNeg)) (fun G21 => chk (inB x1 48) (chk (inB x1 48) (bnd (up2 G21 3 x1.toNatClampNeg (G21 28 x1.toNatClampNeg)) (fun G24 => bnd (x1 + 1) (fun x1_25 => rec (G24, x1_25))))))))))))
noncomputable def f_X12_back (G : Mem)  : Option (Mem × Int32) := (if (G 0 44) = 0 then some (G, (-3)) else bnd (up2 G 0 1 (G 0 45)) (fun G2 => bnd (up2 G2 0 2 (G2 0 46)) (fun G3 => bnd (up2 G3 0 16 (G3 0 47)) (fun G4 => iter (q_X12_back_36) fuel (G4, 0)))))
theorem kyX12_back : Ky yX12_back cX12_back 2 (some FieldType.int) 0 := ⟨u6_118, u1_15, by decide, by decide, by decide, by decide +kernel⟩
set_option maxHeartbeats 4000000 in
set_option maxRecDepth 100000 in
theorem c_X12_back (l : Launch) (D : va_G) (K : List Nat) (sh : Nat → Ent) (ad : Nat → Nat) (cy : Nat → ClassId) (X : va_W) (B : State → Prop) (hcl : Bcl (AS K ad X) B) (hE : ∀ q ∈ shM, q.1 ∈ K ∧ sh q.1 = q.2) (G : Mem) (L : MemL) (O : MemO)  {Gz : Mem} {vz : Int32} (hf : f_X12_back G = some (Gz, vz)) : Met l yX12_back (wsU yX12_back cX12_back 2 (some FieldType.int)) (rmX 1 0 0) (va_Pc [.ref (ad 0)] (PS D K sh ad cy X B G L O)) (QI (AS K ad X) (PH D K sh ad cy X Gz L O) vz) 0 0 (AS K ad X) := by
  refine s_met (by decide) (Nat.le_of_ble_eq_true rfl) ?_
  intro p e s m args below meth c ls H locs E hK hBs hnm hI hl
  have hl : lv_has ls 2 [(0, .ref (ad 0))] := hl
  have E : Cx p s m args meth c RX12 cX12_back 2 (some FieldType.int) := E
  obtain ⟨hx, hb, hr, hml, hown, hu, hlocks⟩ := id E
  have B111 : ∀   (n : Nat) (G : Mem) (x1 : Int32) (H : Heap) (locs : List Loc) (ls : Array Slot), lv_has ls 2 [(0, .ref (ad 0)), (1, .int x1)] → IS D K sh ad cy X (AS K ad X) s.heap H locs G L O → iter (q_X12_back_111) n (G, x1) = some (Gz, vz) → W p l e (rmX 1 0 0) s m args below meth c H locs 0 0 (MQ below (QI (AS K ad X) (PH D K sh ad cy X Gz L O) vz) args s 0 0 (AS K ad X)) (F0 m 111 ls []) := by
    intro n
    induction n with
    | zero => intro G x1 H locs ls hl hI hf; exact iter_0 hf
    | succ n ih =>
      intro G x1 H locs ls hl hI hf
      have hf : q_X12_back_111 (iter (q_X12_back_111) n) (G, x1) = some (Gz, vz) := hf
      rw [q_X12_back_111] at hf
      refine lv_iload_n hx hb dX12_back_111 rfl (lv_at hl 1 rfl) ?_
      refine lv_aload_n hx hb dX12_back_112 rfl (lv_at hl 0 rfl) ?_
      refine s_get (v := .int (G 0 48)) hx hb hu inU12 hown hK hI (mE hE eM_0) rfl 48 (by decide) u4_236 (fun _ h => h) rfl rfl dX12_back_113 ?_
      refine lv_icmp_ge (tgt := 137) hx hb dX12_back_116 (by decide) (fun c7 => ?_) (fun c7 => ?_)
      · have hf := ite_t c7 hf
        refine lv_aload_n hx hb dX12_back_137 rfl (lv_at hl 0 rfl) ?_
        refine s_get (v := .int (G 0 7)) hx hb hu inU12 hown hK hI (mE hE eM_0) rfl 7 (by decide) u4_195 (fun _ h => h) rfl rfl dX12_back_138 ?_
        cases hf
        exact s_iret hx hb hr hI.2.2 hI.1 hlocks dX12_back_141
      · have hf := ite_f c7 hf
        refine lv_aload_n hx hb dX12_back_119 rfl (lv_at hl 0 rfl) ?_
        refine s_get (v := .ref (ad 6)) hx hb hu inU12 hown hK hI (mE hE eM_0) rfl 9 (by decide) u4_197 (fun _ h => h) rfl rfl dX12_back_120 ?_
        refine lv_iload_n hx hb dX12_back_123 rfl (lv_at hl 1 rfl) ?_
        refine lv_aload_n hx hb dX12_back_124 rfl (lv_at hl 0 rfl) ?_
        refine s_get (v := .ref (ad 30)) hx hb hu inU12 hown hK hI (mE hE eM_0) rfl 53 (by decide) u5_1 (fun _ h => h) rfl rfl dX12_back_125 ?_
        refine lv_iload_n hx hb dX12_back_128 rfl (lv_at hl 1 rfl) ?_
        obtain ⟨h8, hf⟩ := chk_i hf
        refine s_ild hx hb hK hI (mE hE eM_30) (inB_i h8) dX12_back_129 ?_
        obtain ⟨h9, hf⟩ := chk_i hf
        obtain ⟨G10, eG10, hf⟩ := bnd_i hf
        refine s_ist hx hb hK hI (mE hE eM_6) (inB_i h9) eG10 dX12_back_130 (fun H locs hI => ?_)
        obtain ⟨x1_11, ex1_11, hf⟩ := bnd_i hf
        refine lv_iinc (v := x1_11) (lv' := [(1, .int x1_11), (0, .ref (ad 0))]) hx hb dX12_back_131 hl (k := 1) rfl (by rw [ex1_11]; rfl) (by decide) rfl (fun ls hl => ?_)
        refine lv_goto (tgt := 111) hx hb dX12_back_134 (by decide) ?_
        exact ih G10 x1_11 H locs ls (lv_sub hl [1, 0] rfl) hI hf
  have B86 : ∀   (n : Nat) (G : Mem) (x1 : Int32) (H : Heap) (locs : List Loc) (ls : Array Slot), lv_has ls 2 [(0, .ref (ad 0)), (1, .int x1)] → IS D K sh ad cy X (AS K ad X) s.heap H locs G L O → iter (q_X12_back_86) n (G, x1) = some (Gz, vz) → W p l e (rmX 1 0 0) s m args below meth c H locs 0 0 (MQ below (QI (AS K ad X) (PH D K sh ad cy X Gz L O) vz) args s 0 0 (AS K ad X)) (F0 m 86 ls []) := by
    intro n
    induction n with
    | zero => intro G x1 H locs ls hl hI hf; exact iter_0 hf
    | succ n ih =>
      intro G x1 H locs ls hl hI hf
      have hf : q_X12_back_86 (iter (q_X12_back_86) n) (G, x1) = some (Gz, vz) := hf
      rw [q_X12_back_86] at hf
      refine lv_iload_n hx hb dX12_back_86 rfl (lv_at hl 1 rfl) ?_
      refine lv_iconst (v := 4) hx hb dX12_back_87 (by decide) ?_
      refine lv_icmp_ge (tgt := 109) hx hb dX12_back_88 (by decide) (fun c6 => ?_) (fun c6 => ?_)
      · have hf := ite_t c6 hf
        refine lv_iconst (v := 0) hx hb dX12_back_109 (by decide) ?_
        refine lv_istore_n (lv' := [(1, .int 0), (0, .ref (ad 0))]) hx hb dX12_back_110 rfl hl (by decide) rfl (fun ls hl => ?_)
        exact B111   fuel G 0 H locs ls (lv_sub hl [1, 0] rfl) hI hf
      · have hf := ite_f c6 hf
        refine lv_aload_n hx hb dX12_back_91 rfl (lv_at hl 0 rfl) ?_
        refine s_get (v := .ref (ad 4)) hx hb hu inU12 hown hK hI (mE hE eM_0) rfl 6 (by decide) u4_194 (fun _ h => h) rfl rfl dX12_back_92 ?_
        refine lv_iload_n hx hb dX12_back_95 rfl (lv_at hl 1 rfl) ?_
        refine lv_aload_n hx hb dX12_back_96 rfl (lv_at hl 0 rfl) ?_
        refine s_get (v := .ref (ad 29)) hx hb hu inU12 hown hK hI (mE hE eM_0) rfl 52 (by decide) u5_0 (fun _ h => h) rfl rfl dX12_back_97 ?_
        refine lv_iload_n hx hb dX12_back_100 rfl (lv_at hl 1 rfl) ?_
        obtain ⟨h12, hf⟩ := chk_i hf
        refine s_ild hx hb hK hI (mE hE eM_29) (inB_i h12) dX12_back_101 ?_
        obtain ⟨h13, hf⟩ := chk_i hf
        obtain ⟨G14, eG14, hf⟩ := bnd_i hf
        refine s_ist hx hb hK hI (mE hE eM_4) (inB_i h13) eG14 dX12_back_102 (fun H locs hI => ?_)
        obtain ⟨x1_15, ex1_15, hf⟩ := bnd_i hf
        refine lv_iinc (v := x1_15) (lv' := [(1, .int x1_15), (0, .ref (ad 0))]) hx hb dX12_back_103 hl (k := 1) rfl (by rw [ex1_15]; rfl) (by decide) rfl (fun ls hl => ?_)
        refine lv_goto (tgt := 86) hx hb dX12_back_106 (by decide) ?_
        exact ih G14 x1_15 H locs ls (lv_sub hl [1, 0] rfl) hI hf
  have B36 : ∀   (n : Nat) (G : Mem) (x1 : Int32) (H : Heap) (locs : List Loc) (ls : Array Slot), lv_has ls 2 [(0, .ref (ad 0)), (1, .int x1)] → IS D K sh ad cy X (AS K ad X) s.heap H locs G L O → iter (q_X12_back_36) n (G, x1) = some (Gz, vz) → W p l e (rmX 1 0 0) s m args below meth c H locs 0 0 (MQ below (QI (AS K ad X) (PH D K sh ad cy X Gz L O) vz) args s 0 0 (AS K ad X)) (F0 m 36 ls []) := by
    intro n
    induction n with
    | zero => intro G x1 H locs ls hl hI hf; exact iter_0 hf
    | succ n ih =>
      intro G x1 H locs ls hl hI hf
      have hf : q_X12_back_36 (iter (q_X12_back_36) n) (G, x1) = some (Gz, vz) := hf
      rw [q_X12_back_36] at hf
      refine lv_iload_n hx hb dX12_back_36 rfl (lv_at hl 1 rfl) ?_
      refine lv_bipush (v := 48) hx hb dX12_back_37 (by decide) ?_
      refine lv_icmp_ge (tgt := 84) hx hb dX12_back_39 (by decide) (fun c5 => ?_) (fun c5 => ?_)
      · have hf := ite_t c5 hf
        refine lv_iconst (v := 0) hx hb dX12_back_84 (by decide) ?_
        refine lv_istore_n (lv' := [(1, .int 0), (0, .ref (ad 0))]) hx hb dX12_back_85 rfl hl (by decide) rfl (fun ls hl => ?_)
        exact B86   fuel G 0 H locs ls (lv_sub hl [1, 0] rfl) hI hf
      · have hf := ite_f c5 hf
        refine lv_aload_n hx hb dX12_back_42 rfl (lv_at hl 0 rfl) ?_
        refine s_get (v := .ref (ad 1)) hx hb hu inU12 hown hK hI (mE hE eM_0) rfl 3 (by decide) u4_191 (fun _ h => h) rfl rfl dX12_back_43 ?_
        refine lv_iload_n hx hb dX12_back_46 rfl (lv_at hl 1 rfl) ?_
        refine lv_aload_n hx hb dX12_back_47 rfl (lv_at hl 0 rfl) ?_
        refine s_get (v := .ref (ad 26)) hx hb hu inU12 hown hK hI (mE hE eM_0) rfl 49 (by decide) u4_237 (fun _ h => h) rfl rfl dX12_back_48 ?_
        refine lv_iload_n hx hb dX12_back_51 rfl (lv_at hl 1 rfl) ?_
        obtain ⟨h16, hf⟩ := chk_i hf
        refine s_ild hx hb hK hI (mE hE eM_26) (inB_i h16) dX12_back_52 ?_
        obtain ⟨h17, hf⟩ := chk_i hf
        obtain ⟨G18, eG18, hf⟩ := bnd_i hf
        refine s_ist hx hb hK hI (mE hE eM_1) (inB_i h17) eG18 dX12_back_53 (fun H locs hI => ?_)
        refine lv_aload_n hx hb dX12_back_54 rfl (lv_at hl 0 rfl) ?_
        refine s_get (v := .ref (ad 2)) hx hb hu inU12 hown hK hI (mE hE eM_0) rfl 4 (by decide) u4_192 (fun _ h => h) rfl rfl dX12_back_55 ?_
        refine lv_iload_n hx hb dX12_back_58 rfl (lv_at hl 1 rfl) ?_
        refine lv_aload_n hx hb dX12_back_59 rfl (lv_at hl 0 rfl) ?_
        refine s_get (v := .ref (ad 27)) hx hb hu inU12 hown hK hI (mE hE eM_0) rfl 50 (by decide) u4_238 (fun _ h => h) rfl rfl dX12_back_60 ?_
        refine lv_iload_n hx hb dX12_back_63 rfl (lv_at hl 1 rfl) ?_
        obtain ⟨h19, hf⟩ := chk_i hf
        refine s_ild hx hb hK hI (mE hE eM_27) (inB_i h19) dX12_back_64 ?_
        obtain ⟨h20, hf⟩ := chk_i hf
        obtain ⟨G21, eG21, hf⟩ := bnd_i hf
        refine s_ist hx hb hK hI (mE hE eM_2) (inB_i h20) eG21 dX12_back_65 (fun H locs hI => ?_)
        refine lv_aload_n hx hb dX12_back_66 rfl (lv_at hl 0 rfl) ?_
        refine s_get (v := .ref (ad 3)) hx hb hu inU12 hown hK hI (mE hE eM_0) rfl 5 (by decide) u4_193 (fun _ h => h) rfl rfl dX12_back_67 ?_
        refine lv_iload_n hx hb dX12_back_70 rfl (lv_at hl 1 rfl) ?_
        refine lv_aload_n hx hb dX12_back_71 rfl (lv_at hl 0 rfl) ?_
        refine s_get (v := .ref (ad 28)) hx hb hu inU12 hown hK hI (mE hE eM_0) rfl 51 (by decide) u4_239 (fun _ h => h) rfl rfl dX12_back_72 ?_
        refine lv_iload_n hx hb dX12_back_75 rfl (lv_at hl 1 rfl) ?_
        obtain ⟨h22, hf⟩ := chk_i hf
        refine s_ild hx hb hK hI (mE hE eM_28) (inB_i h22) dX12_back_76 ?_
        obtain ⟨h23, hf⟩ := chk_i hf
        obtain ⟨G24, eG24, hf⟩ := bnd_i hf
        refine s_ist hx hb hK hI (mE hE eM_3) (inB_i h23) eG24 dX12_back_77 (fun H locs hI => ?_)
        obtain ⟨x1_25, ex1_25, hf⟩ := bnd_i hf
        refine lv_iinc (v := x1_25) (lv' := [(1, .int x1_25), (0, .ref (ad 0))]) hx hb dX12_back_78 hl (k := 1) rfl (by rw [ex1_25]; rfl) (by decide) rfl (fun ls hl => ?_)
        refine lv_goto (tgt := 36) hx hb dX12_back_81 (by decide) ?_
        exact ih G24 x1_25 H locs ls (lv_sub hl [1, 0] rfl) hI hf
  rw [f_X12_back] at hf
  refine lv_aload_n hx hb dX12_back_0 rfl (lv_at hl 0 rfl) ?_
  refine s_get (v := .int (G 0 44)) hx hb hu inU12 hown hK hI (mE hE eM_0) rfl 44 (by decide) u4_232 (fun _ h => h) rfl rfl dX12_back_1 ?_
  refine lv_if_ne (tgt := 10) hx hb dX12_back_4 (by decide) (fun c1 => ?_) (fun c1 => ?_)
  · have hf := ite_f c1 hf
    refine lv_aload_n hx hb dX12_back_10 rfl (lv_at hl 0 rfl) ?_
    refine lv_aload_n hx hb dX12_back_11 rfl (lv_at hl 0 rfl) ?_
    refine s_get (v := .int (G 0 45)) hx hb hu inU12 hown hK hI (mE hE eM_0) rfl 45 (by decide) u4_233 (fun _ h => h) rfl rfl dX12_back_12 ?_
    obtain ⟨G2, eG2, hf⟩ := bnd_i hf
    refine s_put (ty := .int) hx hb hu inU12 tyX12_ok nmX12 hown hK hI (mE hE eM_0) rfl 1 (by decide) u4_189 (fun _ h => h) rfl rfl (tyX12_ok 1 (by decide)) rfl rfl eG2 dX12_back_15 (fun H locs hI => ?_)
    refine lv_aload_n hx hb dX12_back_18 rfl (lv_at hl 0 rfl) ?_
    refine lv_aload_n hx hb dX12_back_19 rfl (lv_at hl 0 rfl) ?_
    refine s_get (v := .int (G2 0 46)) hx hb hu inU12 hown hK hI (mE hE eM_0) rfl 46 (by decide) u4_234 (fun _ h => h) rfl rfl dX12_back_20 ?_
    obtain ⟨G3, eG3, hf⟩ := bnd_i hf
    refine s_put (ty := .int) hx hb hu inU12 tyX12_ok nmX12 hown hK hI (mE hE eM_0) rfl 2 (by decide) u4_190 (fun _ h => h) rfl rfl (tyX12_ok 2 (by decide)) rfl rfl eG3 dX12_back_23 (fun H locs hI => ?_)
    refine lv_aload_n hx hb dX12_back_26 rfl (lv_at hl 0 rfl) ?_
    refine lv_aload_n hx hb dX12_back_27 rfl (lv_at hl 0 rfl) ?_
    refine s_get (v := .int (G3 0 47)) hx hb hu inU12 hown hK hI (mE hE eM_0) rfl 47 (by decide) u4_235 (fun _ h => h) rfl rfl dX12_back_28 ?_
    obtain ⟨G4, eG4, hf⟩ := bnd_i hf
    refine s_put (ty := .int) hx hb hu inU12 tyX12_ok nmX12 hown hK hI (mE hE eM_0) rfl 16 (by decide) u4_204 (fun _ h => h) rfl rfl (tyX12_ok 16 (by decide)) rfl rfl eG4 dX12_back_31 (fun H locs hI => ?_)
    refine lv_iconst (v := 0) hx hb dX12_back_34 (by decide) ?_
    refine lv_istore_n (lv' := [(1, .int 0), (0, .ref (ad 0))]) hx hb dX12_back_35 rfl hl (by decide) rfl (fun ls hl => ?_)
    exact B36   fuel G4 0 H locs ls (lv_sub hl [1, 0] rfl) hI hf
  · have hf := ite_t c1 hf
    refine lv_bipush (v := (-3)) hx hb dX12_back_7 (by decide) ?_
    cases hf
    exact s_iret hx hb hr hI.2.2 hI.1 hlocks dX12_back_9
noncomputable def q_X12_count_60 (G : Mem) (x1 : Int32)  (rec : (Int32 × Int32) → Option (Int32)) : (Int32 × Int32) → Option (Int32) := fun (x2, x3) => (if (G 0 1) ≤ x3 then some x2 else chk (inB x3 48) (bnd (x2 + (G 2 x3.toNatClampNeg)) (fun x2_6 => bnd (x3 + 1) (fun x3_7 => rec (x2_6, x3_7)))))
noncomputable def q_X12_count_87 (G : Mem) (x1 : Int32)  (rec : (Int32 × Int32) → Option (Int32)) : (Int32 × Int32) → Option (Int32) := fun (x2, x3) => (if (G 0 1) ≤ x3 then some x2 else chk (inB x3 48) (bnd (x2 + (G 3 x3.toNatClampNeg)) (fun x2_11 => bnd (x3 + 1) (fun x3_12 => rec (x2_11, x3_12)))))
noncomputable def q_X12_count_129 (G : Mem) (x1 : Int32)  (rec : (Int32 × Int32) → Option (Int32)) : (Int32 × Int32) → Option (Int32) := fun (x2, x3) => (if 4 ≤ x3 then some x2 else chk (inB x3 4) (bnd (x2 + (G 4 x3.toNatClampNeg)) (fun x2_19 => bnd (x3 + 1) (fun x3_20 => rec (x2_19, x3_20)))))
noncomputable def f_X12_count (G : Mem) (x1 : Int32) : Option (Int32) := (if x1 = 0 then some (G 0 7) else if x1 = 1 then some (G 0 1) else if x1 = 2 then iter (q_X12_count_60 G x1) fuel (0, 0) else if x1 = 3 then iter (q_X12_count_87 G x1) fuel (0, 0) else if x1 = 4 then some (G 0 15) else if x1 = 5 then some (G 0 14) else if x1 = 6 then some (G 0 16) else if x1 = 7 then iter (q_X12_count_129 G x1) fuel (0, 0) else some (-2))
theorem kyX12_count : Ky yX12_count cX12_count 4 (some FieldType.int) 1 := ⟨u6_122, u1_15, by decide, by decide, by decide, by decide +kernel⟩
set_option maxHeartbeats 4000000 in
set_option maxRecDepth 100000 in
theorem c_X12_count (l : Launch) (D : va_G) (K : List Nat) (sh : Nat → Ent) (ad : Nat → Nat) (cy : Nat → ClassId) (X : va_W) (B : State → Prop) (hcl : Bcl (AS K ad X) B) (hE : ∀ q ∈ shM, q.1 ∈ K ∧ sh q.1 = q.2) (G : Mem) (L : MemL) (O : MemO) (x1 : Int32)  {vz : Int32} (hf : f_X12_count G x1 = some vz) : Met l yX12_count (wsU yX12_count cX12_count 4 (some FieldType.int)) (rmX 1 0 0) (va_Pc [.ref (ad 0), .int x1] (PS D K sh ad cy X B G L O)) (QI (AS K ad X) (PH D K sh ad cy X G L O) vz) 0 0 (AS K ad X) := by
  refine s_met (by decide) (Nat.le_of_ble_eq_true rfl) ?_
  intro p e s m args below meth c ls H locs E hK hBs hnm hI hl
  have hl : lv_has ls 4 [(0, .ref (ad 0)), (1, .int x1)] := hl
  have E : Cx p s m args meth c RX12 cX12_count 4 (some FieldType.int) := E
  obtain ⟨hx, hb, hr, hml, hown, hu, hlocks⟩ := id E
  have B60 : ∀   (n : Nat) (x2 : Int32) (x3 : Int32) (H : Heap) (locs : List Loc) (ls : Array Slot), lv_has ls 4 [(0, .ref (ad 0)), (2, .int x2), (3, .int x3)] → IS D K sh ad cy X (AS K ad X) s.heap H locs G L O → iter (q_X12_count_60 G x1) n (x2, x3) = some vz → W p l e (rmX 1 0 0) s m args below meth c H locs 0 0 (MQ below (QI (AS K ad X) (PH D K sh ad cy X G L O) vz) args s 0 0 (AS K ad X)) (F0 m 60 ls []) := by
    intro n
    induction n with
    | zero => intro x2 x3 H locs ls hl hI hf; exact iter_0 hf
    | succ n ih =>
      intro x2 x3 H locs ls hl hI hf
      have hf : q_X12_count_60 G x1 (iter (q_X12_count_60 G x1) n) (x2, x3) = some vz := hf
      rw [q_X12_count_60] at hf
      refine lv_iload_n hx hb dX12_count_60 rfl (lv_at hl 2 rfl) ?_
      refine lv_aload_n hx hb dX12_count_61 rfl (lv_at hl 0 rfl) ?_
      refine s_get (v := .int (G 0 1)) hx hb hu inU12 hown hK hI (mE hE eM_0) rfl 1 (by decide) u4_189 (fun _ h => h) rfl rfl dX12_count_62 ?_
      refine lv_icmp_ge (tgt := 83) hx hb dX12_count_65 (by decide) (fun c4 => ?_) (fun c4 => ?_)
      · have hf := ite_t c4 hf
        refine lv_iload_n hx hb dX12_count_83 rfl (lv_at hl 1 rfl) ?_
        cases hf
        exact s_iret hx hb hr hI.2.2 hI.1 hlocks dX12_count_84
      · have hf := ite_f c4 hf
        refine lv_iload_n hx hb dX12_count_68 rfl (lv_at hl 1 rfl) ?_
        refine lv_aload_n hx hb dX12_count_69 rfl (lv_at hl 0 rfl) ?_
        refine s_get (v := .ref (ad 2)) hx hb hu inU12 hown hK hI (mE hE eM_0) rfl 4 (by decide) u4_192 (fun _ h => h) rfl rfl dX12_count_70 ?_
        refine lv_iload_n hx hb dX12_count_73 rfl (lv_at hl 2 rfl) ?_
        obtain ⟨h5, hf⟩ := chk_i hf
        refine s_ild hx hb hK hI (mE hE eM_2) (inB_i h5) dX12_count_74 ?_
        refine lv_iadd hx hb dX12_count_75 ?_
        obtain ⟨x2_6, ex2_6, hf⟩ := bnd_i hf
        refine s_nmI ex2_6 ?_
        refine lv_istore_n (lv' := [(2, .int x2_6), (0, .ref (ad 0)), (3, .int x3)]) hx hb dX12_count_76 rfl hl (by decide) rfl (fun ls hl => ?_)
        obtain ⟨x3_7, ex3_7, hf⟩ := bnd_i hf
        refine lv_iinc (v := x3_7) (lv' := [(3, .int x3_7), (2, .int x2_6), (0, .ref (ad 0))]) hx hb dX12_count_77 hl (k := 2) rfl (by rw [ex3_7]; rfl) (by decide) rfl (fun ls hl => ?_)
        refine lv_goto (tgt := 60) hx hb dX12_count_80 (by decide) ?_
        exact ih x2_6 x3_7 H locs ls (lv_sub hl [2, 1, 0] rfl) hI hf
  have B87 : ∀   (n : Nat) (x2 : Int32) (x3 : Int32) (H : Heap) (locs : List Loc) (ls : Array Slot), lv_has ls 4 [(0, .ref (ad 0)), (2, .int x2), (3, .int x3)] → IS D K sh ad cy X (AS K ad X) s.heap H locs G L O → iter (q_X12_count_87 G x1) n (x2, x3) = some vz → W p l e (rmX 1 0 0) s m args below meth c H locs 0 0 (MQ below (QI (AS K ad X) (PH D K sh ad cy X G L O) vz) args s 0 0 (AS K ad X)) (F0 m 87 ls []) := by
    intro n
    induction n with
    | zero => intro x2 x3 H locs ls hl hI hf; exact iter_0 hf
    | succ n ih =>
      intro x2 x3 H locs ls hl hI hf
      have hf : q_X12_count_87 G x1 (iter (q_X12_count_87 G x1) n) (x2, x3) = some vz := hf
      rw [q_X12_count_87] at hf
      refine lv_iload_n hx hb dX12_count_87 rfl (lv_at hl 2 rfl) ?_
      refine lv_aload_n hx hb dX12_count_88 rfl (lv_at hl 0 rfl) ?_
      refine s_get (v := .int (G 0 1)) hx hb hu inU12 hown hK hI (mE hE eM_0) rfl 1 (by decide) u4_189 (fun _ h => h) rfl rfl dX12_count_89 ?_
      refine lv_icmp_ge (tgt := 110) hx hb dX12_count_92 (by decide) (fun c9 => ?_) (fun c9 => ?_)
      · have hf := ite_t c9 hf
        refine lv_iload_n hx hb dX12_count_110 rfl (lv_at hl 1 rfl) ?_
        cases hf
        exact s_iret hx hb hr hI.2.2 hI.1 hlocks dX12_count_111
      · have hf := ite_f c9 hf
        refine lv_iload_n hx hb dX12_count_95 rfl (lv_at hl 1 rfl) ?_
        refine lv_aload_n hx hb dX12_count_96 rfl (lv_at hl 0 rfl) ?_
        refine s_get (v := .ref (ad 3)) hx hb hu inU12 hown hK hI (mE hE eM_0) rfl 5 (by decide) u4_193 (fun _ h => h) rfl rfl dX12_count_97 ?_
        refine lv_iload_n hx hb dX12_count_100 rfl (lv_at hl 2 rfl) ?_
        obtain ⟨h10, hf⟩ := chk_i hf
        refine s_ild hx hb hK hI (mE hE eM_3) (inB_i h10) dX12_count_101 ?_
        refine lv_iadd hx hb dX12_count_102 ?_
        obtain ⟨x2_11, ex2_11, hf⟩ := bnd_i hf
        refine s_nmI ex2_11 ?_
        refine lv_istore_n (lv' := [(2, .int x2_11), (0, .ref (ad 0)), (3, .int x3)]) hx hb dX12_count_103 rfl hl (by decide) rfl (fun ls hl => ?_)
        obtain ⟨x3_12, ex3_12, hf⟩ := bnd_i hf
        refine lv_iinc (v := x3_12) (lv' := [(3, .int x3_12), (2, .int x2_11), (0, .ref (ad 0))]) hx hb dX12_count_104 hl (k := 2) rfl (by rw [ex3_12]; rfl) (by decide) rfl (fun ls hl => ?_)
        refine lv_goto (tgt := 87) hx hb dX12_count_107 (by decide) ?_
        exact ih x2_11 x3_12 H locs ls (lv_sub hl [2, 1, 0] rfl) hI hf
  have B129 : ∀   (n : Nat) (x2 : Int32) (x3 : Int32) (H : Heap) (locs : List Loc) (ls : Array Slot), lv_has ls 4 [(0, .ref (ad 0)), (2, .int x2), (3, .int x3)] → IS D K sh ad cy X (AS K ad X) s.heap H locs G L O → iter (q_X12_count_129 G x1) n (x2, x3) = some vz → W p l e (rmX 1 0 0) s m args below meth c H locs 0 0 (MQ below (QI (AS K ad X) (PH D K sh ad cy X G L O) vz) args s 0 0 (AS K ad X)) (F0 m 129 ls []) := by
    intro n
    induction n with
    | zero => intro x2 x3 H locs ls hl hI hf; exact iter_0 hf
    | succ n ih =>
      intro x2 x3 H locs ls hl hI hf
      have hf : q_X12_count_129 G x1 (iter (q_X12_count_129 G x1) n) (x2, x3) = some vz := hf
      rw [q_X12_count_129] at hf
      refine lv_iload_n hx hb dX12_count_129 rfl (lv_at hl 2 rfl) ?_
      refine lv_iconst (v := 4) hx hb dX12_count_130 (by decide) ?_
      refine lv_icmp_ge (tgt := 149) hx hb dX12_count_131 (by decide) (fun c17 => ?_) (fun c17 => ?_)
      · have hf := ite_t c17 hf
        refine lv_iload_n hx hb dX12_count_149 rfl (lv_at hl 1 rfl) ?_
        cases hf
        exact s_iret hx hb hr hI.2.2 hI.1 hlocks dX12_count_150
      · have hf := ite_f c17 hf
        refine lv_iload_n hx hb dX12_count_134 rfl (lv_at hl 1 rfl) ?_
        refine lv_aload_n hx hb dX12_count_135 rfl (lv_at hl 0 rfl) ?_
        refine s_get (v := .ref (ad 4)) hx hb hu inU12 hown hK hI (mE hE eM_0) rfl 6 (by decide) u4_194 (fun _ h => h) rfl rfl dX12_count_136 ?_
        refine lv_iload_n hx hb dX12_count_139 rfl (lv_at hl 2 rfl) ?_
        obtain ⟨h18, hf⟩ := chk_i hf
        refine s_ild hx hb hK hI (mE hE eM_4) (inB_i h18) dX12_count_140 ?_
        refine lv_iadd hx hb dX12_count_141 ?_
        obtain ⟨x2_19, ex2_19, hf⟩ := bnd_i hf
        refine s_nmI ex2_19 ?_
        refine lv_istore_n (lv' := [(2, .int x2_19), (0, .ref (ad 0)), (3, .int x3)]) hx hb dX12_count_142 rfl hl (by decide) rfl (fun ls hl => ?_)
        obtain ⟨x3_20, ex3_20, hf⟩ := bnd_i hf
        refine lv_iinc (v := x3_20) (lv' := [(3, .int x3_20), (2, .int x2_19), (0, .ref (ad 0))]) hx hb dX12_count_143 hl (k := 2) rfl (by rw [ex3_20]; rfl) (by decide) rfl (fun ls hl => ?_)
        refine lv_goto (tgt := 129) hx hb dX12_count_146 (by decide) ?_
        exact ih x2_19 x3_20 H locs ls (lv_sub hl [2, 1, 0] rfl) hI hf
  rw [f_X12_count] at hf
  refine lv_iconst (v := 0) hx hb dX12_count_0 (by decide) ?_
  refine lv_istore_n (lv' := [(2, .int 0), (0, .ref (ad 0)), (1, .int x1)]) hx hb dX12_count_1 rfl hl (by decide) rfl (fun ls hl => ?_)
  refine lv_iload_n hx hb dX12_count_2 rfl (lv_at hl 2 rfl) ?_
  by_cases c1 : x1 = 0
  · have hf := ite_t c1 hf
    refine s_tbl (tgt := 48) 0 E dX12_count_3 c1 (by decide) (by decide) rfl (by decide) ?_
    refine lv_aload_n hx hb dX12_count_48 rfl (lv_at hl 1 rfl) ?_
    refine s_get (v := .int (G 0 7)) hx hb hu inU12 hown hK hI (mE hE eM_0) rfl 7 (by decide) u4_195 (fun _ h => h) rfl rfl dX12_count_49 ?_
    cases hf
    exact s_iret hx hb hr hI.2.2 hI.1 hlocks dX12_count_52
  · have hf := ite_f c1 hf
    by_cases c2 : x1 = 1
    · have hf := ite_t c2 hf
      refine s_tbl (tgt := 53) 1 E dX12_count_3 c2 (by decide) (by decide) rfl (by decide) ?_
      refine lv_aload_n hx hb dX12_count_53 rfl (lv_at hl 1 rfl) ?_
      refine s_get (v := .int (G 0 1)) hx hb hu inU12 hown hK hI (mE hE eM_0) rfl 1 (by decide) u4_189 (fun _ h => h) rfl rfl dX12_count_54 ?_
      cases hf
      exact s_iret hx hb hr hI.2.2 hI.1 hlocks dX12_count_57
    · have hf := ite_f c2 hf
      by_cases c3 : x1 = 2
      · have hf := ite_t c3 hf
        refine s_tbl (tgt := 58) 2 E dX12_count_3 c3 (by decide) (by decide) rfl (by decide) ?_
        refine lv_iconst (v := 0) hx hb dX12_count_58 (by decide) ?_
        refine lv_istore_n (lv' := [(3, .int 0), (2, .int 0), (0, .ref (ad 0)), (1, .int x1)]) hx hb dX12_count_59 rfl hl (by decide) rfl (fun ls hl => ?_)
        exact B60   fuel 0 0 H locs ls (lv_sub hl [2, 1, 0] rfl) hI hf
      · have hf := ite_f c3 hf
        by_cases c8 : x1 = 3
        · have hf := ite_t c8 hf
          refine s_tbl (tgt := 85) 3 E dX12_count_3 c8 (by decide) (by decide) rfl (by decide) ?_
          refine lv_iconst (v := 0) hx hb dX12_count_85 (by decide) ?_
          refine lv_istore_n (lv' := [(3, .int 0), (2, .int 0), (0, .ref (ad 0)), (1, .int x1)]) hx hb dX12_count_86 rfl hl (by decide) rfl (fun ls hl => ?_)
          exact B87   fuel 0 0 H locs ls (lv_sub hl [2, 1, 0] rfl) hI hf
        · have hf := ite_f c8 hf
          by_cases c13 : x1 = 4
          · have hf := ite_t c13 hf
            refine s_tbl (tgt := 112) 4 E dX12_count_3 c13 (by decide) (by decide) rfl (by decide) ?_
            refine lv_aload_n hx hb dX12_count_112 rfl (lv_at hl 1 rfl) ?_
            refine s_get (v := .int (G 0 15)) hx hb hu inU12 hown hK hI (mE hE eM_0) rfl 15 (by decide) u4_203 (fun _ h => h) rfl rfl dX12_count_113 ?_
            cases hf
            exact s_iret hx hb hr hI.2.2 hI.1 hlocks dX12_count_116
          · have hf := ite_f c13 hf
            by_cases c14 : x1 = 5
            · have hf := ite_t c14 hf
              refine s_tbl (tgt := 117) 5 E dX12_count_3 c14 (by decide) (by decide) rfl (by decide) ?_
              refine lv_aload_n hx hb dX12_count_117 rfl (lv_at hl 1 rfl) ?_
              refine s_get (v := .int (G 0 14)) hx hb hu inU12 hown hK hI (mE hE eM_0) rfl 14 (by decide) u4_202 (fun _ h => h) rfl rfl dX12_count_118 ?_
              cases hf
              exact s_iret hx hb hr hI.2.2 hI.1 hlocks dX12_count_121
            · have hf := ite_f c14 hf
              by_cases c15 : x1 = 6
              · have hf := ite_t c15 hf
                refine s_tbl (tgt := 122) 6 E dX12_count_3 c15 (by decide) (by decide) rfl (by decide) ?_
                refine lv_aload_n hx hb dX12_count_122 rfl (lv_at hl 1 rfl) ?_
                refine s_get (v := .int (G 0 16)) hx hb hu inU12 hown hK hI (mE hE eM_0) rfl 16 (by decide) u4_204 (fun _ h => h) rfl rfl dX12_count_123 ?_
                cases hf
                exact s_iret hx hb hr hI.2.2 hI.1 hlocks dX12_count_126
              · have hf := ite_f c15 hf
                by_cases c16 : x1 = 7
                · have hf := ite_t c16 hf
                  refine s_tbl (tgt := 127) 7 E dX12_count_3 c16 (by decide) (by decide) rfl (by decide) ?_
                  refine lv_iconst (v := 0) hx hb dX12_count_127 (by decide) ?_
                  refine lv_istore_n (lv' := [(3, .int 0), (2, .int 0), (0, .ref (ad 0)), (1, .int x1)]) hx hb dX12_count_128 rfl hl (by decide) rfl (fun ls hl => ?_)
                  exact B129   fuel 0 0 H locs ls (lv_sub hl [2, 1, 0] rfl) hI hf
                · have hf := ite_f c16 hf
                  refine lv_tableOut (tgt := 151) hx hb dX12_count_3 (by have q0 := lv_neT c1 (show (0 : Int32).toInt = 0 from rfl); have q1 := lv_neT c2 (show (1 : Int32).toInt = 1 from rfl); have q2 := lv_neT c3 (show (2 : Int32).toInt = 2 from rfl); have q3 := lv_neT c8 (show (3 : Int32).toInt = 3 from rfl); have q4 := lv_neT c13 (show (4 : Int32).toInt = 4 from rfl); have q5 := lv_neT c14 (show (5 : Int32).toInt = 5 from rfl); have q6 := lv_neT c15 (show (6 : Int32).toInt = 6 from rfl); have q7 := lv_neT c16 (show (7 : Int32).toInt = 7 from rfl); omega) (by decide) ?_
                  refine lv_bipush (v := (-2)) hx hb dX12_count_151 (by decide) ?_
                  cases hf
                  exact s_iret hx hb hr hI.2.2 hI.1 hlocks dX12_count_153
noncomputable def q_X12_sheet_66 (x1 : Int32) (x2 : Int32) (x3 : Int32)  (rec : (Mem × Int32) → Option (Mem × Int32)) : (Mem × Int32) → Option (Mem × Int32) := fun (G, x4) => (if x3 ≤ x4 then some (G, 1) else chk (inB ((40 * x1) + x4) 160) (bnd (up2 G 33 ((40 * x1) + x4).toNatClampNeg 0) (fun G12 => bnd (x4 + 1) (fun x4_13 => rec (G12, x4_13)))))
noncomputable def f_X12_sheet (G : Mem) (x1 : Int32) (x2 : Int32) (x3 : Int32) : Option (Mem × Int32) := (if (f_X12_isSheet x1) = 0 then some (G, (-2)) else (if (f_X12_in x2 (-1) 2) = 0 then some (G, (-2)) else (if x2 = (-1) then chk (inB x1 4) (bnd (up2 G 31 x1.toNatClampNeg (-1)) (fun G15 => some (G15, 1))) else (if x3 ≤ 40 then (if 0 ≤ x3 then chk (inB x1 4) (bnd (up2 G 31 x1.toNatClampNeg x2) (fun G7 => chk (inB x1 4) (bnd (up2 G7 32 x1.toNatClampNeg x3) (fun G9 => iter (q_X12_sheet_66 x1 x2 x3) fuel (G9, 0))))) else some (G, (-14))) else some (G, (-2))))))
theorem kyX12_sheet : Ky yX12_sheet cX12_sheet 5 (some FieldType.int) 3 := ⟨u6_126, u1_15, by decide, by decide, by decide, by decide +kernel⟩
set_option maxHeartbeats 4000000 in
set_option maxRecDepth 100000 in
theorem c_X12_sheet (l : Launch) (D : va_G) (K : List Nat) (sh : Nat → Ent) (ad : Nat → Nat) (cy : Nat → ClassId) (X : va_W) (B : State → Prop) (hcl : Bcl (AS K ad X) B) (hE : ∀ q ∈ shM, q.1 ∈ K ∧ sh q.1 = q.2) (G : Mem) (L : MemL) (O : MemO) (x1 : Int32) (x2 : Int32) (x3 : Int32) {Gz : Mem} {vz : Int32} (hf : f_X12_sheet G x1 x2 x3 = some (Gz, vz)) : Met l yX12_sheet (wsU yX12_sheet cX12_sheet 5 (some FieldType.int)) (rmX 3 0 0) (va_Pc [.ref (ad 0), .int x1, .int x2, .int x3] (PS D K sh ad cy X B G L O)) (QI (AS K ad X) (PH D K sh ad cy X Gz L O) vz) 0 0 (AS K ad X) := by
  refine s_met (by decide) (Nat.le_of_ble_eq_true rfl) ?_
  intro p e s m args below meth c ls H locs E hK hBs hnm hI hl
  have hl : lv_has ls 5 [(0, .ref (ad 0)), (1, .int x1), (2, .int x2), (3, .int x3)] := hl
  have E : Cx p s m args meth c RX12 cX12_sheet 5 (some FieldType.int) := E
  obtain ⟨hx, hb, hr, hml, hown, hu, hlocks⟩ := id E
  have B66 : ∀   (n : Nat) (G : Mem) (x4 : Int32) (H : Heap) (locs : List Loc) (ls : Array Slot), lv_has ls 5 [(0, .ref (ad 0)), (1, .int x1), (3, .int x3), (4, .int x4)] → IS D K sh ad cy X (AS K ad X) s.heap H locs G L O → iter (q_X12_sheet_66 x1 x2 x3) n (G, x4) = some (Gz, vz) → W p l e (rmX 3 0 0) s m args below meth c H locs 0 0 (MQ below (QI (AS K ad X) (PH D K sh ad cy X Gz L O) vz) args s 0 0 (AS K ad X)) (F0 m 66 ls []) := by
    intro n
    induction n with
    | zero => intro G x4 H locs ls hl hI hf; exact iter_0 hf
    | succ n ih =>
      intro G x4 H locs ls hl hI hf
      have hf : q_X12_sheet_66 x1 x2 x3 (iter (q_X12_sheet_66 x1 x2 x3) n) (G, x4) = some (Gz, vz) := hf
      rw [q_X12_sheet_66] at hf
      refine lv_iload hx hb dX12_sheet_66 (lv_at hl 3 rfl) ?_
      refine lv_iload_n hx hb dX12_sheet_68 rfl (lv_at hl 2 rfl) ?_
      refine lv_icmp_ge (tgt := 91) hx hb dX12_sheet_69 (by decide) (fun c10 => ?_) (fun c10 => ?_)
      · have hf := ite_t c10 hf
        refine lv_iconst (v := 1) hx hb dX12_sheet_91 (by decide) ?_
        cases hf
        exact s_iret hx hb hr hI.2.2 hI.1 hlocks dX12_sheet_92
      · have hf := ite_f c10 hf
        refine lv_aload_n hx hb dX12_sheet_72 rfl (lv_at hl 0 rfl) ?_
        refine s_get (v := .ref (ad 33)) hx hb hu inU12 hown hK hI (mE hE eM_0) rfl 56 (by decide) u5_4 (fun _ h => h) rfl rfl dX12_sheet_73 ?_
        refine lv_bipush (v := 40) hx hb dX12_sheet_76 (by decide) ?_
        refine lv_iload_n hx hb dX12_sheet_78 rfl (lv_at hl 1 rfl) ?_
        refine lv_imul hx hb dX12_sheet_79 ?_
        refine lv_iload hx hb dX12_sheet_80 (lv_at hl 3 rfl) ?_
        refine lv_iadd hx hb dX12_sheet_82 ?_
        refine lv_iconst (v := 0) hx hb dX12_sheet_83 (by decide) ?_
        obtain ⟨h11, hf⟩ := chk_i hf
        obtain ⟨G12, eG12, hf⟩ := bnd_i hf
        refine s_ist hx hb hK hI (mE hE eM_33) (inB_i h11) eG12 dX12_sheet_84 (fun H locs hI => ?_)
        obtain ⟨x4_13, ex4_13, hf⟩ := bnd_i hf
        refine lv_iinc (v := x4_13) (lv' := [(4, .int x4_13), (0, .ref (ad 0)), (1, .int x1), (3, .int x3)]) hx hb dX12_sheet_85 hl (k := 3) rfl (by rw [ex4_13]; rfl) (by decide) rfl (fun ls hl => ?_)
        refine lv_goto (tgt := 66) hx hb dX12_sheet_88 (by decide) ?_
        exact ih G12 x4_13 H locs ls (lv_sub hl [1, 2, 3, 0] rfl) hI hf
  rw [f_X12_sheet] at hf
  refine lv_iload_n hx hb dX12_sheet_0 rfl (lv_at hl 1 rfl) ?_
  refine s_cSP (np := 1) (rest := []) E (c_X12_isSheet l x1 rfl) kyX12_isSheet u6_108 u6_109 (by decide) rfl hl.1 rfl (Nat.le_of_ble_eq_true rfl) ⟨Nat.zero_le _, Nat.zero_le _⟩ dX12_sheet_1 ?_
  refine lv_if_eq (tgt := 16) hx hb dX12_sheet_4 (by decide) (fun c1 => ?_) (fun c1 => ?_)
  · have hf := ite_t c1 hf
    refine lv_bipush (v := (-2)) hx hb dX12_sheet_16 (by decide) ?_
    cases hf
    exact s_iret hx hb hr hI.2.2 hI.1 hlocks dX12_sheet_18
  · have hf := ite_f c1 hf
    refine lv_iload_n hx hb dX12_sheet_7 rfl (lv_at hl 2 rfl) ?_
    refine lv_iconst (v := (-1)) hx hb dX12_sheet_8 (by decide) ?_
    refine lv_iconst (v := 2) hx hb dX12_sheet_9 (by decide) ?_
    refine s_cSP (np := 3) (rest := []) E (c_X12_in l x2 (-1) 2 rfl) kyX12_in u5_128 u5_129 (by decide) rfl hl.1 rfl (Nat.le_of_ble_eq_true rfl) ⟨Nat.zero_le _, Nat.zero_le _⟩ dX12_sheet_10 ?_
    refine lv_if_ne (tgt := 19) hx hb dX12_sheet_13 (by decide) (fun c2 => ?_) (fun c2 => ?_)
    · have hf := ite_f c2 hf
      refine lv_iload_n hx hb dX12_sheet_19 rfl (lv_at hl 2 rfl) ?_
      refine lv_iconst (v := (-1)) hx hb dX12_sheet_20 (by decide) ?_
      refine lv_icmp_ne (tgt := 33) hx hb dX12_sheet_21 (by decide) (fun c3 => ?_) (fun c3 => ?_)
      · have hf := ite_f c3 hf
        refine lv_iload_n hx hb dX12_sheet_33 rfl (lv_at hl 3 rfl) ?_
        refine lv_bipush (v := 40) hx hb dX12_sheet_34 (by decide) ?_
        refine lv_icmp_le (tgt := 42) hx hb dX12_sheet_36 (by decide) (fun c4 => ?_) (fun c4 => ?_)
        · have hf := ite_t c4 hf
          refine lv_iload_n hx hb dX12_sheet_42 rfl (lv_at hl 3 rfl) ?_
          refine lv_if_ge (tgt := 49) hx hb dX12_sheet_43 (by decide) (fun c5 => ?_) (fun c5 => ?_)
          · have hf := ite_t c5 hf
            refine lv_aload_n hx hb dX12_sheet_49 rfl (lv_at hl 0 rfl) ?_
            refine s_get (v := .ref (ad 31)) hx hb hu inU12 hown hK hI (mE hE eM_0) rfl 54 (by decide) u5_2 (fun _ h => h) rfl rfl dX12_sheet_50 ?_
            refine lv_iload_n hx hb dX12_sheet_53 rfl (lv_at hl 1 rfl) ?_
            refine lv_iload_n hx hb dX12_sheet_54 rfl (lv_at hl 2 rfl) ?_
            obtain ⟨h6, hf⟩ := chk_i hf
            obtain ⟨G7, eG7, hf⟩ := bnd_i hf
            refine s_ist hx hb hK hI (mE hE eM_31) (inB_i h6) eG7 dX12_sheet_55 (fun H locs hI => ?_)
            refine lv_aload_n hx hb dX12_sheet_56 rfl (lv_at hl 0 rfl) ?_
            refine s_get (v := .ref (ad 32)) hx hb hu inU12 hown hK hI (mE hE eM_0) rfl 55 (by decide) u5_3 (fun _ h => h) rfl rfl dX12_sheet_57 ?_
            refine lv_iload_n hx hb dX12_sheet_60 rfl (lv_at hl 1 rfl) ?_
            refine lv_iload_n hx hb dX12_sheet_61 rfl (lv_at hl 3 rfl) ?_
            obtain ⟨h8, hf⟩ := chk_i hf
            obtain ⟨G9, eG9, hf⟩ := bnd_i hf
            refine s_ist hx hb hK hI (mE hE eM_32) (inB_i h8) eG9 dX12_sheet_62 (fun H locs hI => ?_)
            refine lv_iconst (v := 0) hx hb dX12_sheet_63 (by decide) ?_
            refine lv_istore (lv' := [(4, .int 0), (0, .ref (ad 0)), (1, .int x1), (2, .int x2), (3, .int x3)]) hx hb dX12_sheet_64 hl (by decide) rfl (fun ls hl => ?_)
            exact B66   fuel G9 0 H locs ls (lv_sub hl [1, 2, 4, 0] rfl) hI hf
          · have hf := ite_f c5 hf
            refine lv_bipush (v := (-14)) hx hb dX12_sheet_46 (by decide) ?_
            cases hf
            exact s_iret hx hb hr hI.2.2 hI.1 hlocks dX12_sheet_48
        · have hf := ite_f c4 hf
          refine lv_bipush (v := (-2)) hx hb dX12_sheet_39 (by decide) ?_
          cases hf
          exact s_iret hx hb hr hI.2.2 hI.1 hlocks dX12_sheet_41
      · have hf := ite_t c3 hf
        refine lv_aload_n hx hb dX12_sheet_24 rfl (lv_at hl 0 rfl) ?_
        refine s_get (v := .ref (ad 31)) hx hb hu inU12 hown hK hI (mE hE eM_0) rfl 54 (by decide) u5_2 (fun _ h => h) rfl rfl dX12_sheet_25 ?_
        refine lv_iload_n hx hb dX12_sheet_28 rfl (lv_at hl 1 rfl) ?_
        refine lv_iconst (v := (-1)) hx hb dX12_sheet_29 (by decide) ?_
        obtain ⟨h14, hf⟩ := chk_i hf
        obtain ⟨G15, eG15, hf⟩ := bnd_i hf
        refine s_ist hx hb hK hI (mE hE eM_31) (inB_i h14) eG15 dX12_sheet_30 (fun H locs hI => ?_)
        refine lv_iconst (v := 1) hx hb dX12_sheet_31 (by decide) ?_
        cases hf
        exact s_iret hx hb hr hI.2.2 hI.1 hlocks dX12_sheet_32
    · have hf := ite_t c2 hf
      refine lv_bipush (v := (-2)) hx hb dX12_sheet_16 (by decide) ?_
      cases hf
      exact s_iret hx hb hr hI.2.2 hI.1 hlocks dX12_sheet_18
noncomputable def f_X12_cell (G : Mem) (x1 : Int32) (x2 : Int32) (x3 : Int32) : Option (Mem × Int32) := (if (f_X12_isSheet x1) = 0 then some (G, (-2)) else chk (inB x1 4) ((if 0 ≤ (G 31 x1.toNatClampNeg) then chk (inB x1 4) ((if (f_X12_in x2 0 ((G 32 x1.toNatClampNeg) - 1)) = 0 then some (G, (-12)) else chk (inB x1 4) ((if (G 31 x1.toNatClampNeg) = 0 then chk (inB ((40 * x1) + x2) 160) (bnd (up2 G 33 ((40 * x1) + x2).toNatClampNeg (x3.toInt8.toInt32)) (fun G15 => some (G15, 1))) else chk (inB x1 4) ((if (G 31 x1.toNatClampNeg) = 1 then chk (inB ((40 * x1) + x2) 160) (bnd (up2 G 33 ((40 * x1) + x2).toNatClampNeg (x3.toInt16.toInt32)) (fun G13 => some (G13, 1))) else chk (inB ((40 * x1) + x2) 160) (bnd (up2 G 33 ((40 * x1) + x2).toNatClampNeg x3) (fun G11 => some (G11, 1))))))))) else some (G, (-11)))))
theorem kyX12_cell : Ky yX12_cell cX12_cell 4 (some FieldType.int) 3 := ⟨u6_130, u1_15, by decide, by decide, by decide, by decide +kernel⟩
set_option maxHeartbeats 4000000 in
set_option maxRecDepth 100000 in
theorem c_X12_cell (l : Launch) (D : va_G) (K : List Nat) (sh : Nat → Ent) (ad : Nat → Nat) (cy : Nat → ClassId) (X : va_W) (B : State → Prop) (hcl : Bcl (AS K ad X) B) (hE : ∀ q ∈ shM, q.1 ∈ K ∧ sh q.1 = q.2) (G : Mem) (L : MemL) (O : MemO) (x1 : Int32) (x2 : Int32) (x3 : Int32) {Gz : Mem} {vz : Int32} (hf : f_X12_cell G x1 x2 x3 = some (Gz, vz)) : Met l yX12_cell (wsU yX12_cell cX12_cell 4 (some FieldType.int)) (rmX 3 0 0) (va_Pc [.ref (ad 0), .int x1, .int x2, .int x3] (PS D K sh ad cy X B G L O)) (QI (AS K ad X) (PH D K sh ad cy X Gz L O) vz) 0 0 (AS K ad X) := by
  refine s_met (by decide) (Nat.le_of_ble_eq_true rfl) ?_
  intro p e s m args below meth c ls H locs E hK hBs hnm hI hl
  have hl : lv_has ls 4 [(0, .ref (ad 0)), (1, .int x1), (2, .int x2), (3, .int x3)] := hl
  have E : Cx p s m args meth c RX12 cX12_cell 4 (some FieldType.int) := E
  obtain ⟨hx, hb, hr, hml, hown, hu, hlocks⟩ := id E
  rw [f_X12_cell] at hf
  refine lv_iload_n hx hb dX12_cell_0 rfl (lv_at hl 1 rfl) ?_
  refine s_cSP (np := 1) (rest := []) E (c_X12_isSheet l x1 rfl) kyX12_isSheet u6_108 u6_109 (by decide) rfl hl.1 rfl (Nat.le_of_ble_eq_true rfl) ⟨Nat.zero_le _, Nat.zero_le _⟩ dX12_cell_1 ?_
  refine lv_if_ne (tgt := 10) hx hb dX12_cell_4 (by decide) (fun c1 => ?_) (fun c1 => ?_)
  · have hf := ite_f c1 hf
    refine lv_aload_n hx hb dX12_cell_10 rfl (lv_at hl 0 rfl) ?_
    refine s_get (v := .ref (ad 31)) hx hb hu inU12 hown hK hI (mE hE eM_0) rfl 54 (by decide) u5_2 (fun _ h => h) rfl rfl dX12_cell_11 ?_
    refine lv_iload_n hx hb dX12_cell_14 rfl (lv_at hl 1 rfl) ?_
    obtain ⟨h2, hf⟩ := chk_i hf
    refine s_ild hx hb hK hI (mE hE eM_31) (inB_i h2) dX12_cell_15 ?_
    refine lv_if_ge (tgt := 22) hx hb dX12_cell_16 (by decide) (fun c3 => ?_) (fun c3 => ?_)
    · have hf := ite_t c3 hf
      refine lv_iload_n hx hb dX12_cell_22 rfl (lv_at hl 2 rfl) ?_
      refine lv_iconst (v := 0) hx hb dX12_cell_23 (by decide) ?_
      refine lv_aload_n hx hb dX12_cell_24 rfl (lv_at hl 0 rfl) ?_
      refine s_get (v := .ref (ad 32)) hx hb hu inU12 hown hK hI (mE hE eM_0) rfl 55 (by decide) u5_3 (fun _ h => h) rfl rfl dX12_cell_25 ?_
      refine lv_iload_n hx hb dX12_cell_28 rfl (lv_at hl 1 rfl) ?_
      obtain ⟨h4, hf⟩ := chk_i hf
      refine s_ild hx hb hK hI (mE hE eM_32) (inB_i h4) dX12_cell_29 ?_
      refine lv_iconst (v := 1) hx hb dX12_cell_30 (by decide) ?_
      refine lv_isub hx hb dX12_cell_31 ?_
      refine s_cSP (np := 3) (rest := []) E (c_X12_in l x2 0 ((G 32 x1.toNatClampNeg) - 1) rfl) kyX12_in u5_128 u5_129 (by decide) rfl hl.1 rfl (Nat.le_of_ble_eq_true rfl) ⟨Nat.zero_le _, Nat.zero_le _⟩ dX12_cell_32 ?_
      refine lv_if_ne (tgt := 41) hx hb dX12_cell_35 (by decide) (fun c5 => ?_) (fun c5 => ?_)
      · have hf := ite_f c5 hf
        refine lv_aload_n hx hb dX12_cell_41 rfl (lv_at hl 0 rfl) ?_
        refine s_get (v := .ref (ad 33)) hx hb hu inU12 hown hK hI (mE hE eM_0) rfl 56 (by decide) u5_4 (fun _ h => h) rfl rfl dX12_cell_42 ?_
        refine lv_bipush (v := 40) hx hb dX12_cell_45 (by decide) ?_
        refine lv_iload_n hx hb dX12_cell_47 rfl (lv_at hl 1 rfl) ?_
        refine lv_imul hx hb dX12_cell_48 ?_
        refine lv_iload_n hx hb dX12_cell_49 rfl (lv_at hl 2 rfl) ?_
        refine lv_iadd hx hb dX12_cell_50 ?_
        refine lv_aload_n hx hb dX12_cell_51 rfl (lv_at hl 0 rfl) ?_
        refine s_get (v := .ref (ad 31)) hx hb hu inU12 hown hK hI (mE hE eM_0) rfl 54 (by decide) u5_2 (fun _ h => h) rfl rfl dX12_cell_52 ?_
        refine lv_iload_n hx hb dX12_cell_55 rfl (lv_at hl 1 rfl) ?_
        obtain ⟨h6, hf⟩ := chk_i hf
        refine s_ild hx hb hK hI (mE hE eM_31) (inB_i h6) dX12_cell_56 ?_
        refine lv_if_ne (tgt := 65) hx hb dX12_cell_57 (by decide) (fun c7 => ?_) (fun c7 => ?_)
        · have hf := ite_f c7 hf
          refine lv_aload_n hx hb dX12_cell_65 rfl (lv_at hl 0 rfl) ?_
          refine s_get (v := .ref (ad 31)) hx hb hu inU12 hown hK hI (mE hE eM_0) rfl 54 (by decide) u5_2 (fun _ h => h) rfl rfl dX12_cell_66 ?_
          refine lv_iload_n hx hb dX12_cell_69 rfl (lv_at hl 1 rfl) ?_
          obtain ⟨h8, hf⟩ := chk_i hf
          refine s_ild hx hb hK hI (mE hE eM_31) (inB_i h8) dX12_cell_70 ?_
          refine lv_iconst (v := 1) hx hb dX12_cell_71 (by decide) ?_
          refine lv_icmp_ne (tgt := 80) hx hb dX12_cell_72 (by decide) (fun c9 => ?_) (fun c9 => ?_)
          · have hf := ite_f c9 hf
            refine lv_iload_n hx hb dX12_cell_80 rfl (lv_at hl 3 rfl) ?_
            obtain ⟨h10, hf⟩ := chk_i hf
            obtain ⟨G11, eG11, hf⟩ := bnd_i hf
            refine s_ist hx hb hK hI (mE hE eM_33) (inB_i h10) eG11 dX12_cell_81 (fun H locs hI => ?_)
            refine lv_iconst (v := 1) hx hb dX12_cell_82 (by decide) ?_
            cases hf
            exact s_iret hx hb hr hI.2.2 hI.1 hlocks dX12_cell_83
          · have hf := ite_t c9 hf
            refine lv_iload_n hx hb dX12_cell_75 rfl (lv_at hl 3 rfl) ?_
            refine lv_i2s (v := (x3.toInt16.toInt32)) hx hb dX12_cell_76 rfl ?_
            refine lv_goto (tgt := 81) hx hb dX12_cell_77 (by decide) ?_
            obtain ⟨h12, hf⟩ := chk_i hf
            obtain ⟨G13, eG13, hf⟩ := bnd_i hf
            refine s_ist hx hb hK hI (mE hE eM_33) (inB_i h12) eG13 dX12_cell_81 (fun H locs hI => ?_)
            refine lv_iconst (v := 1) hx hb dX12_cell_82 (by decide) ?_
            cases hf
            exact s_iret hx hb hr hI.2.2 hI.1 hlocks dX12_cell_83
        · have hf := ite_t c7 hf
          refine lv_iload_n hx hb dX12_cell_60 rfl (lv_at hl 3 rfl) ?_
          refine lv_i2b (v := (x3.toInt8.toInt32)) hx hb dX12_cell_61 rfl ?_
          refine lv_goto (tgt := 81) hx hb dX12_cell_62 (by decide) ?_
          obtain ⟨h14, hf⟩ := chk_i hf
          obtain ⟨G15, eG15, hf⟩ := bnd_i hf
          refine s_ist hx hb hK hI (mE hE eM_33) (inB_i h14) eG15 dX12_cell_81 (fun H locs hI => ?_)
          refine lv_iconst (v := 1) hx hb dX12_cell_82 (by decide) ?_
          cases hf
          exact s_iret hx hb hr hI.2.2 hI.1 hlocks dX12_cell_83
      · have hf := ite_t c5 hf
        refine lv_bipush (v := (-12)) hx hb dX12_cell_38 (by decide) ?_
        cases hf
        exact s_iret hx hb hr hI.2.2 hI.1 hlocks dX12_cell_40
    · have hf := ite_f c3 hf
      refine lv_bipush (v := (-11)) hx hb dX12_cell_19 (by decide) ?_
      cases hf
      exact s_iret hx hb hr hI.2.2 hI.1 hlocks dX12_cell_21
  · have hf := ite_t c1 hf
    refine lv_bipush (v := (-2)) hx hb dX12_cell_7 (by decide) ?_
    cases hf
    exact s_iret hx hb hr hI.2.2 hI.1 hlocks dX12_cell_9
noncomputable def q_X12_copy_148 (x1 : Int32) (x2 : Int32) (x3 : Int32) (x4 : Int32) (x5 : Int32)  (rec : (Mem × Int32) → Option (Mem × Int32)) : (Mem × Int32) → Option (Mem × Int32) := fun (G, x6) => (if x5 ≤ x6 then some (G, x5) else chk (inB x6 40) (chk (inB (((40 * x3) + x4) + x6) 160) (bnd (up2 G 33 (((40 * x3) + x4) + x6).toNatClampNeg (G 34 x6.toNatClampNeg)) (fun G21 => bnd (x6 + 1) (fun x6_22 => rec (G21, x6_22))))))
noncomputable def q_X12_copy_111 (x1 : Int32) (x2 : Int32) (x3 : Int32) (x4 : Int32) (x5 : Int32)  (rec : (Mem × Int32) → Option (Mem × Int32)) : (Mem × Int32) → Option (Mem × Int32) := fun (G, x6) => (if x5 ≤ x6 then iter (q_X12_copy_148 x1 x2 x3 x4 x5) fuel (G, 0) else chk (inB (((40 * x1) + x2) + x6) 160) (chk (inB x6 40) (bnd (up2 G 34 x6.toNatClampNeg (G 33 (((40 * x1) + x2) + x6).toNatClampNeg)) (fun G25 => bnd (x6 + 1) (fun x6_26 => rec (G25, x6_26))))))
noncomputable def f_X12_copy (G : Mem) (x1 : Int32) (x2 : Int32) (x3 : Int32) (x4 : Int32) (x5 : Int32) : Option (Mem × Int32) := (if (f_X12_isSheet x1) = 0 then some (G, (-2)) else (if (f_X12_isSheet x3) = 0 then some (G, (-2)) else chk (inB x1 4) ((if (G 31 x1.toNatClampNeg) < 0 then some (G, (-11)) else chk (inB x3 4) ((if 0 ≤ (G 31 x3.toNatClampNeg) then chk (inB x1 4) (chk (inB x3 4) ((if (G 31 x1.toNatClampNeg) = (G 31 x3.toNatClampNeg) then (if x5 < 0 then some (G, (-12)) else (if x2 < 0 then some (G, (-12)) else (if x4 < 0 then some (G, (-12)) else chk (inB x1 4) ((if 0 < (lg_cmp ((x2.toInt64) + (x5.toInt64)) ((G 32 x1.toNatClampNeg).toInt64)) then some (G, (-12)) else chk (inB x3 4) ((if (lg_cmp ((x4.toInt64) + (x5.toInt64)) ((G 32 x3.toNatClampNeg).toInt64)) ≤ 0 then iter (q_X12_copy_111 x1 x2 x3 x4 x5) fuel (G, 0) else some (G, (-12))))))))) else some (G, (-13))))) else some (G, (-11))))))))
theorem kyX12_copy : Ky yX12_copy cX12_copy 7 (some FieldType.int) 5 := ⟨u6_134, u1_15, by decide, by decide, by decide, by decide +kernel⟩
set_option maxHeartbeats 4000000 in
set_option maxRecDepth 100000 in
theorem c_X12_copy (l : Launch) (D : va_G) (K : List Nat) (sh : Nat → Ent) (ad : Nat → Nat) (cy : Nat → ClassId) (X : va_W) (B : State → Prop) (hcl : Bcl (AS K ad X) B) (hE : ∀ q ∈ shM, q.1 ∈ K ∧ sh q.1 = q.2) (G : Mem) (L : MemL) (O : MemO) (x1 : Int32) (x2 : Int32) (x3 : Int32) (x4 : Int32) (x5 : Int32) {Gz : Mem} {vz : Int32} (hf : f_X12_copy G x1 x2 x3 x4 x5 = some (Gz, vz)) : Met l yX12_copy (wsU yX12_copy cX12_copy 7 (some FieldType.int)) (rmX 3 0 0) (va_Pc [.ref (ad 0), .int x1, .int x2, .int x3, .int x4, .int x5] (PS D K sh ad cy X B G L O)) (QI (AS K ad X) (PH D K sh ad cy X Gz L O) vz) 0 0 (AS K ad X) := by
  refine s_met (by decide) (Nat.le_of_ble_eq_true rfl) ?_
  intro p e s m args below meth c ls H locs E hK hBs hnm hI hl
  have hl : lv_has ls 7 [(0, .ref (ad 0)), (1, .int x1), (2, .int x2), (3, .int x3), (4, .int x4), (5, .int x5)] := hl
  have E : Cx p s m args meth c RX12 cX12_copy 7 (some FieldType.int) := E
  obtain ⟨hx, hb, hr, hml, hown, hu, hlocks⟩ := id E
  have B148 : ∀   (n : Nat) (G : Mem) (x6 : Int32) (H : Heap) (locs : List Loc) (ls : Array Slot), lv_has ls 7 [(0, .ref (ad 0)), (3, .int x3), (4, .int x4), (5, .int x5), (6, .int x6)] → IS D K sh ad cy X (AS K ad X) s.heap H locs G L O → iter (q_X12_copy_148 x1 x2 x3 x4 x5) n (G, x6) = some (Gz, vz) → W p l e (rmX 3 0 0) s m args below meth c H locs 0 0 (MQ below (QI (AS K ad X) (PH D K sh ad cy X Gz L O) vz) args s 0 0 (AS K ad X)) (F0 m 148 ls []) := by
    intro n
    induction n with
    | zero => intro G x6 H locs ls hl hI hf; exact iter_0 hf
    | succ n ih =>
      intro G x6 H locs ls hl hI hf
      have hf : q_X12_copy_148 x1 x2 x3 x4 x5 (iter (q_X12_copy_148 x1 x2 x3 x4 x5) n) (G, x6) = some (Gz, vz) := hf
      rw [q_X12_copy_148] at hf
      refine lv_iload hx hb dX12_copy_148 (lv_at hl 4 rfl) ?_
      refine lv_iload hx hb dX12_copy_150 (lv_at hl 3 rfl) ?_
      refine lv_icmp_ge (tgt := 183) hx hb dX12_copy_152 (by decide) (fun c18 => ?_) (fun c18 => ?_)
      · have hf := ite_t c18 hf
        refine lv_iload hx hb dX12_copy_183 (lv_at hl 3 rfl) ?_
        cases hf
        exact s_iret hx hb hr hI.2.2 hI.1 hlocks dX12_copy_185
      · have hf := ite_f c18 hf
        refine lv_aload_n hx hb dX12_copy_155 rfl (lv_at hl 0 rfl) ?_
        refine s_get (v := .ref (ad 33)) hx hb hu inU12 hown hK hI (mE hE eM_0) rfl 56 (by decide) u5_4 (fun _ h => h) rfl rfl dX12_copy_156 ?_
        refine lv_bipush (v := 40) hx hb dX12_copy_159 (by decide) ?_
        refine lv_iload_n hx hb dX12_copy_161 rfl (lv_at hl 1 rfl) ?_
        refine lv_imul hx hb dX12_copy_162 ?_
        refine lv_iload hx hb dX12_copy_163 (lv_at hl 2 rfl) ?_
        refine lv_iadd hx hb dX12_copy_165 ?_
        refine lv_iload hx hb dX12_copy_166 (lv_at hl 4 rfl) ?_
        refine lv_iadd hx hb dX12_copy_168 ?_
        refine lv_aload_n hx hb dX12_copy_169 rfl (lv_at hl 0 rfl) ?_
        refine s_get (v := .ref (ad 34)) hx hb hu inU12 hown hK hI (mE hE eM_0) rfl 57 (by decide) u5_5 (fun _ h => h) rfl rfl dX12_copy_170 ?_
        refine lv_iload hx hb dX12_copy_173 (lv_at hl 4 rfl) ?_
        obtain ⟨h19, hf⟩ := chk_i hf
        refine s_ild hx hb hK hI (mE hE eM_34) (inB_i h19) dX12_copy_175 ?_
        obtain ⟨h20, hf⟩ := chk_i hf
        obtain ⟨G21, eG21, hf⟩ := bnd_i hf
        refine s_ist hx hb hK hI (mE hE eM_33) (inB_i h20) eG21 dX12_copy_176 (fun H locs hI => ?_)
        obtain ⟨x6_22, ex6_22, hf⟩ := bnd_i hf
        refine lv_iinc (v := x6_22) (lv' := [(6, .int x6_22), (0, .ref (ad 0)), (3, .int x3), (4, .int x4), (5, .int x5)]) hx hb dX12_copy_177 hl (k := 4) rfl (by rw [ex6_22]; rfl) (by decide) rfl (fun ls hl => ?_)
        refine lv_goto (tgt := 148) hx hb dX12_copy_180 (by decide) ?_
        exact ih G21 x6_22 H locs ls (lv_sub hl [1, 2, 3, 4, 0] rfl) hI hf
  have B111 : ∀   (n : Nat) (G : Mem) (x6 : Int32) (H : Heap) (locs : List Loc) (ls : Array Slot), lv_has ls 7 [(0, .ref (ad 0)), (1, .int x1), (2, .int x2), (3, .int x3), (4, .int x4), (5, .int x5), (6, .int x6)] → IS D K sh ad cy X (AS K ad X) s.heap H locs G L O → iter (q_X12_copy_111 x1 x2 x3 x4 x5) n (G, x6) = some (Gz, vz) → W p l e (rmX 3 0 0) s m args below meth c H locs 0 0 (MQ below (QI (AS K ad X) (PH D K sh ad cy X Gz L O) vz) args s 0 0 (AS K ad X)) (F0 m 111 ls []) := by
    intro n
    induction n with
    | zero => intro G x6 H locs ls hl hI hf; exact iter_0 hf
    | succ n ih =>
      intro G x6 H locs ls hl hI hf
      have hf : q_X12_copy_111 x1 x2 x3 x4 x5 (iter (q_X12_copy_111 x1 x2 x3 x4 x5) n) (G, x6) = some (Gz, vz) := hf
      rw [q_X12_copy_111] at hf
      refine lv_iload hx hb dX12_copy_111 (lv_at hl 6 rfl) ?_
      refine lv_iload hx hb dX12_copy_113 (lv_at hl 5 rfl) ?_
      refine lv_icmp_ge (tgt := 145) hx hb dX12_copy_115 (by decide) (fun c17 => ?_) (fun c17 => ?_)
      · have hf := ite_t c17 hf
        refine lv_iconst (v := 0) hx hb dX12_copy_145 (by decide) ?_
        refine lv_istore (lv' := [(6, .int 0), (0, .ref (ad 0)), (1, .int x1), (2, .int x2), (3, .int x3), (4, .int x4), (5, .int x5)]) hx hb dX12_copy_146 hl (by decide) rfl (fun ls hl => ?_)
        exact B148   fuel G 0 H locs ls (lv_sub hl [1, 4, 5, 6, 0] rfl) hI hf
      · have hf := ite_f c17 hf
        refine lv_aload_n hx hb dX12_copy_118 rfl (lv_at hl 0 rfl) ?_
        refine s_get (v := .ref (ad 34)) hx hb hu inU12 hown hK hI (mE hE eM_0) rfl 57 (by decide) u5_5 (fun _ h => h) rfl rfl dX12_copy_119 ?_
        refine lv_iload hx hb dX12_copy_122 (lv_at hl 6 rfl) ?_
        refine lv_aload_n hx hb dX12_copy_124 rfl (lv_at hl 0 rfl) ?_
        refine s_get (v := .ref (ad 33)) hx hb hu inU12 hown hK hI (mE hE eM_0) rfl 56 (by decide) u5_4 (fun _ h => h) rfl rfl dX12_copy_125 ?_
        refine lv_bipush (v := 40) hx hb dX12_copy_128 (by decide) ?_
        refine lv_iload_n hx hb dX12_copy_130 rfl (lv_at hl 1 rfl) ?_
        refine lv_imul hx hb dX12_copy_131 ?_
        refine lv_iload_n hx hb dX12_copy_132 rfl (lv_at hl 2 rfl) ?_
        refine lv_iadd hx hb dX12_copy_133 ?_
        refine lv_iload hx hb dX12_copy_134 (lv_at hl 6 rfl) ?_
        refine lv_iadd hx hb dX12_copy_136 ?_
        obtain ⟨h23, hf⟩ := chk_i hf
        refine s_ild hx hb hK hI (mE hE eM_33) (inB_i h23) dX12_copy_137 ?_
        obtain ⟨h24, hf⟩ := chk_i hf
        obtain ⟨G25, eG25, hf⟩ := bnd_i hf
        refine s_ist hx hb hK hI (mE hE eM_34) (inB_i h24) eG25 dX12_copy_138 (fun H locs hI => ?_)
        obtain ⟨x6_26, ex6_26, hf⟩ := bnd_i hf
        refine lv_iinc (v := x6_26) (lv' := [(6, .int x6_26), (0, .ref (ad 0)), (1, .int x1), (2, .int x2), (3, .int x3), (4, .int x4), (5, .int x5)]) hx hb dX12_copy_139 hl (k := 6) rfl (by rw [ex6_26]; rfl) (by decide) rfl (fun ls hl => ?_)
        refine lv_goto (tgt := 111) hx hb dX12_copy_142 (by decide) ?_
        exact ih G25 x6_26 H locs ls (lv_sub hl [1, 2, 3, 4, 5, 6, 0] rfl) hI hf
  rw [f_X12_copy] at hf
  refine lv_iload_n hx hb dX12_copy_0 rfl (lv_at hl 1 rfl) ?_
  refine s_cSP (np := 1) (rest := []) E (c_X12_isSheet l x1 rfl) kyX12_isSheet u6_108 u6_109 (by decide) rfl hl.1 rfl (Nat.le_of_ble_eq_true rfl) ⟨Nat.zero_le _, Nat.zero_le _⟩ dX12_copy_1 ?_
  refine lv_if_eq (tgt := 14) hx hb dX12_copy_4 (by decide) (fun c1 => ?_) (fun c1 => ?_)
  · have hf := ite_t c1 hf
    refine lv_bipush (v := (-2)) hx hb dX12_copy_14 (by decide) ?_
    cases hf
    exact s_iret hx hb hr hI.2.2 hI.1 hlocks dX12_copy_16
  · have hf := ite_f c1 hf
    refine lv_iload_n hx hb dX12_copy_7 rfl (lv_at hl 3 rfl) ?_
    refine s_cSP (np := 1) (rest := []) E (c_X12_isSheet l x3 rfl) kyX12_isSheet u6_108 u6_109 (by decide) rfl hl.1 rfl (Nat.le_of_ble_eq_true rfl) ⟨Nat.zero_le _, Nat.zero_le _⟩ dX12_copy_8 ?_
    refine lv_if_ne (tgt := 17) hx hb dX12_copy_11 (by decide) (fun c2 => ?_) (fun c2 => ?_)
    · have hf := ite_f c2 hf
      refine lv_aload_n hx hb dX12_copy_17 rfl (lv_at hl 0 rfl) ?_
      refine s_get (v := .ref (ad 31)) hx hb hu inU12 hown hK hI (mE hE eM_0) rfl 54 (by decide) u5_2 (fun _ h => h) rfl rfl dX12_copy_18 ?_
      refine lv_iload_n hx hb dX12_copy_21 rfl (lv_at hl 1 rfl) ?_
      obtain ⟨h3, hf⟩ := chk_i hf
      refine s_ild hx hb hK hI (mE hE eM_31) (inB_i h3) dX12_copy_22 ?_
      refine lv_if_lt (tgt := 35) hx hb dX12_copy_23 (by decide) (fun c4 => ?_) (fun c4 => ?_)
      · have hf := ite_t c4 hf
        refine lv_bipush (v := (-11)) hx hb dX12_copy_35 (by decide) ?_
        cases hf
        exact s_iret hx hb hr hI.2.2 hI.1 hlocks dX12_copy_37
      · have hf := ite_f c4 hf
        refine lv_aload_n hx hb dX12_copy_26 rfl (lv_at hl 0 rfl) ?_
        refine s_get (v := .ref (ad 31)) hx hb hu inU12 hown hK hI (mE hE eM_0) rfl 54 (by decide) u5_2 (fun _ h => h) rfl rfl dX12_copy_27 ?_
        refine lv_iload_n hx hb dX12_copy_30 rfl (lv_at hl 3 rfl) ?_
        obtain ⟨h5, hf⟩ := chk_i hf
        refine s_ild hx hb hK hI (mE hE eM_31) (inB_i h5) dX12_copy_31 ?_
        refine lv_if_ge (tgt := 38) hx hb dX12_copy_32 (by decide) (fun c6 => ?_) (fun c6 => ?_)
        · have hf := ite_t c6 hf
          refine lv_aload_n hx hb dX12_copy_38 rfl (lv_at hl 0 rfl) ?_
          refine s_get (v := .ref (ad 31)) hx hb hu inU12 hown hK hI (mE hE eM_0) rfl 54 (by decide) u5_2 (fun _ h => h) rfl rfl dX12_copy_39 ?_
          refine lv_iload_n hx hb dX12_copy_42 rfl (lv_at hl 1 rfl) ?_
          obtain ⟨h7, hf⟩ := chk_i hf
          refine s_ild hx hb hK hI (mE hE eM_31) (inB_i h7) dX12_copy_43 ?_
          refine lv_aload_n hx hb dX12_copy_44 rfl (lv_at hl 0 rfl) ?_
          refine s_get (v := .ref (ad 31)) hx hb hu inU12 hown hK hI (mE hE eM_0) rfl 54 (by decide) u5_2 (fun _ h => h) rfl rfl dX12_copy_45 ?_
          refine lv_iload_n hx hb dX12_copy_48 rfl (lv_at hl 3 rfl) ?_
          obtain ⟨h8, hf⟩ := chk_i hf
          refine s_ild hx hb hK hI (mE hE eM_31) (inB_i h8) dX12_copy_49 ?_
          refine lv_icmp_eq (tgt := 56) hx hb dX12_copy_50 (by decide) (fun c9 => ?_) (fun c9 => ?_)
          · have hf := ite_t c9 hf
            refine lv_iload hx hb dX12_copy_56 (lv_at hl 5 rfl) ?_
            refine lv_if_lt (tgt := 105) hx hb dX12_copy_58 (by decide) (fun c10 => ?_) (fun c10 => ?_)
            · have hf := ite_t c10 hf
              refine lv_bipush (v := (-12)) hx hb dX12_copy_105 (by decide) ?_
              cases hf
              exact s_iret hx hb hr hI.2.2 hI.1 hlocks dX12_copy_107
            · have hf := ite_f c10 hf
              refine lv_iload_n hx hb dX12_copy_61 rfl (lv_at hl 2 rfl) ?_
              refine lv_if_lt (tgt := 105) hx hb dX12_copy_62 (by decide) (fun c11 => ?_) (fun c11 => ?_)
              · have hf := ite_t c11 hf
                refine lv_bipush (v := (-12)) hx hb dX12_copy_105 (by decide) ?_
                cases hf
                exact s_iret hx hb hr hI.2.2 hI.1 hlocks dX12_copy_107
              · have hf := ite_f c11 hf
                refine lv_iload hx hb dX12_copy_65 (lv_at hl 4 rfl) ?_
                refine lv_if_lt (tgt := 105) hx hb dX12_copy_67 (by decide) (fun c12 => ?_) (fun c12 => ?_)
                · have hf := ite_t c12 hf
                  refine lv_bipush (v := (-12)) hx hb dX12_copy_105 (by decide) ?_
                  cases hf
                  exact s_iret hx hb hr hI.2.2 hI.1 hlocks dX12_copy_107
                · have hf := ite_f c12 hf
                  refine lv_iload_n hx hb dX12_copy_70 rfl (lv_at hl 2 rfl) ?_
                  refine lv_i2l (v := (x2.toInt64)) hx hb dX12_copy_71 rfl ?_
                  refine lv_iload hx hb dX12_copy_72 (lv_at hl 5 rfl) ?_
                  refine lv_i2l (v := (x5.toInt64)) hx hb dX12_copy_74 rfl ?_
                  refine lv_ladd hx hb dX12_copy_75 ?_
                  refine lv_aload_n hx hb dX12_copy_76 rfl (lv_at hl 0 rfl) ?_
                  refine s_get (v := .ref (ad 32)) hx hb hu inU12 hown hK hI (mE hE eM_0) rfl 55 (by decide) u5_3 (fun _ h => h) rfl rfl dX12_copy_77 ?_
                  refine lv_iload_n hx hb dX12_copy_80 rfl (lv_at hl 1 rfl) ?_
                  obtain ⟨h13, hf⟩ := chk_i hf
                  refine s_ild hx hb hK hI (mE hE eM_32) (inB_i h13) dX12_copy_81 ?_
                  refine lv_i2l (v := ((G 32 x1.toNatClampNeg).toInt64)) hx hb dX12_copy_82 rfl ?_
                  refine W.lcmp hx hb dX12_copy_83 ?_
                  refine lv_if_gt (tgt := 105) hx hb dX12_copy_84 (by decide) (fun c14 => ?_) (fun c14 => ?_)
                  · have hf := ite_t c14 hf
                    refine lv_bipush (v := (-12)) hx hb dX12_copy_105 (by decide) ?_
                    cases hf
                    exact s_iret hx hb hr hI.2.2 hI.1 hlocks dX12_copy_107
                  · have hf := ite_f c14 hf
                    refine lv_iload hx hb dX12_copy_87 (lv_at hl 4 rfl) ?_
                    refine lv_i2l (v := (x4.toInt64)) hx hb dX12_copy_89 rfl ?_
                    refine lv_iload hx hb dX12_copy_90 (lv_at hl 5 rfl) ?_
                    refine lv_i2l (v := (x5.toInt64)) hx hb dX12_copy_92 rfl ?_
                    refine lv_ladd hx hb dX12_copy_93 ?_
                    refine lv_aload_n hx hb dX12_copy_94 rfl (lv_at hl 0 rfl) ?_
                    refine s_get (v := .ref (ad 32)) hx hb hu inU12 hown hK hI (mE hE eM_0) rfl 55 (by decide) u5_3 (fun _ h => h) rfl rfl dX12_copy_95 ?_
                    refine lv_iload_n hx hb dX12_copy_98 rfl (lv_at hl 3 rfl) ?_
                    obtain ⟨h15, hf⟩ := chk_i hf
                    refine s_ild hx hb hK hI (mE hE eM_32) (inB_i h15) dX12_copy_99 ?_
                    refine lv_i2l (v := ((G 32 x3.toNatClampNeg).toInt64)) hx hb dX12_copy_100 rfl ?_
                    refine W.lcmp hx hb dX12_copy_101 ?_
                    refine lv_if_le (tgt := 108) hx hb dX12_copy_102 (by decide) (fun c16 => ?_) (fun c16 => ?_)
                    · have hf := ite_t c16 hf
                      refine lv_iconst (v := 0) hx hb dX12_copy_108 (by decide) ?_
                      refine lv_istore (lv' := [(6, .int 0), (0, .ref (ad 0)), (1, .int x1), (2, .int x2), (3, .int x3), (4, .int x4), (5, .int x5)]) hx hb dX12_copy_109 hl (by decide) rfl (fun ls hl => ?_)
                      exact B111   fuel G 0 H locs ls (lv_sub hl [1, 2, 3, 4, 5, 6, 0] rfl) hI hf
                    · have hf := ite_f c16 hf
                      refine lv_bipush (v := (-12)) hx hb dX12_copy_105 (by decide) ?_
                      cases hf
                      exact s_iret hx hb hr hI.2.2 hI.1 hlocks dX12_copy_107
          · have hf := ite_f c9 hf
            refine lv_bipush (v := (-13)) hx hb dX12_copy_53 (by decide) ?_
            cases hf
            exact s_iret hx hb hr hI.2.2 hI.1 hlocks dX12_copy_55
        · have hf := ite_f c6 hf
          refine lv_bipush (v := (-11)) hx hb dX12_copy_35 (by decide) ?_
          cases hf
          exact s_iret hx hb hr hI.2.2 hI.1 hlocks dX12_copy_37
    · have hf := ite_t c2 hf
      refine lv_bipush (v := (-2)) hx hb dX12_copy_14 (by decide) ?_
      cases hf
      exact s_iret hx hb hr hI.2.2 hI.1 hlocks dX12_copy_16
noncomputable def q_X12_singers_70 (x1 : Int32) (x2 : Int32) (x3 : Int32) (x4 : Int32)  (rec : (Mem × Int32 × Int32) → Option (Mem × Int32)) : (Mem × Int32 × Int32) → Option (Mem × Int32) := fun (G, x5, x6) => (if x4 ≤ x6 then some (G, x5) else bnd ((x3.toInt64) + ((3 * x6).toInt64)) (fun w7_9 => (if (lg_cmp w7_9 0) < 0 then some (G, (-12)) else chk (inB x1 4) ((if (lg_cmp (w7_9 + 2) ((G 32 x1.toNatClampNeg).toInt64)) < 0 then bnd ((40 * x1) + (w7_9.toInt32)) (fun x9_13 => chk (inB x9_13 160) (chk (inB (x9_13 + 1) 160) (chk (inB (x9_13 + 2) 160) (bndP (f_X12_singer G (G 33 x9_13.toNatClampNeg) (G 33 (x9_13 + 1).toNatClampNeg) (G 33 (x9_13 + 2).toNatClampNeg)) (fun G17 v18 => (if v18 < 0 then bnd (x6 + 1) (fun x6_21 => rec (G17, x5, x6_21)) else bnd (x5 + 1) (fun x5_22 => bnd (x6 + 1) (fun x6_23 => rec (G17, x5_22, x6_23))))))))) else some (G, (-12)))))))
noncomputable def j_X12_singers_52 (x1 : Int32) (x2 : Int32) (x3 : Int32) (x4 : Int32)  (G : Mem) : Option (Mem × Int32) := chk (inB x1 4) ((if 0 ≤ (G 31 x1.toNatClampNeg) then iter (q_X12_singers_70 x1 x2 x3 x4) fuel (G, 0, 0) else some (G, (-11))))
noncomputable def f_X12_singers (G : Mem) (x1 : Int32) (x2 : Int32) (x3 : Int32) (x4 : Int32) : Option (Mem × Int32) := (if (f_X12_isSheet x1) = 0 then some (G, (-2)) else (if (f_X12_in x2 0 2) = 0 then some (G, (-2)) else (if (f_X12_in x4 0 10) = 0 then some (G, (-2)) else chk (inB x1 4) ((if (G 31 x1.toNatClampNeg) < 0 then j_X12_singers_52 x1 x2 x3 x4 G else chk (inB x1 4) ((if (G 31 x1.toNatClampNeg) = x2 then j_X12_singers_52 x1 x2 x3 x4 G else some (G, (-13)))))))))
theorem kyX12_singers : Ky yX12_singers cX12_singers 10 (some FieldType.int) 4 := ⟨u6_138, u1_15, by decide, by decide, by decide, by decide +kernel⟩
set_option maxHeartbeats 4000000 in
set_option maxRecDepth 100000 in
theorem c_X12_singers (l : Launch) (D : va_G) (K : List Nat) (sh : Nat → Ent) (ad : Nat → Nat) (cy : Nat → ClassId) (X : va_W) (B : State → Prop) (hcl : Bcl (AS K ad X) B) (hE : ∀ q ∈ shM, q.1 ∈ K ∧ sh q.1 = q.2) (G : Mem) (L : MemL) (O : MemO) (x1 : Int32) (x2 : Int32) (x3 : Int32) (x4 : Int32) {Gz : Mem} {vz : Int32} (hf : f_X12_singers G x1 x2 x3 x4 = some (Gz, vz)) : Met l yX12_singers (wsU yX12_singers cX12_singers 10 (some FieldType.int)) (rmX 3 0 0) (va_Pc [.ref (ad 0), .int x1, .int x2, .int x3, .int x4] (PS D K sh ad cy X B G L O)) (QI (AS K ad X) (PH D K sh ad cy X Gz L O) vz) 0 0 (AS K ad X) := by
  refine s_met (by decide) (Nat.le_of_ble_eq_true rfl) ?_
  intro p e s m args below meth c ls H locs E hK hBs hnm hI hl
  have hl : lv_has ls 10 [(0, .ref (ad 0)), (1, .int x1), (2, .int x2), (3, .int x3), (4, .int x4)] := hl
  have E : Cx p s m args meth c RX12 cX12_singers 10 (some FieldType.int) := E
  obtain ⟨hx, hb, hr, hml, hown, hu, hlocks⟩ := id E
  have B70 : ∀   (n : Nat) (G : Mem) (x5 : Int32) (x6 : Int32) (H : Heap) (locs : List Loc) (ls : Array Slot), lv_has ls 10 [(0, .ref (ad 0)), (1, .int x1), (3, .int x3), (4, .int x4), (5, .int x5), (6, .int x6)] → IS D K sh ad cy X (AS K ad X) s.heap H locs G L O → iter (q_X12_singers_70 x1 x2 x3 x4) n (G, x5, x6) = some (Gz, vz) → W p l e (rmX 3 0 0) s m args below meth c H locs 0 0 (MQ below (QI (AS K ad X) (PH D K sh ad cy X Gz L O) vz) args s 0 0 (AS K ad X)) (F0 m 70 ls []) := by
    intro n
    induction n with
    | zero => intro G x5 x6 H locs ls hl hI hf; exact iter_0 hf
    | succ n ih =>
      intro G x5 x6 H locs ls hl hI hf
      have hf : q_X12_singers_70 x1 x2 x3 x4 (iter (q_X12_singers_70 x1 x2 x3 x4) n) (G, x5, x6) = some (Gz, vz) := hf
      rw [q_X12_singers_70] at hf
      refine lv_iload hx hb dX12_singers_70 (lv_at hl 5 rfl) ?_
      refine lv_iload hx hb dX12_singers_72 (lv_at hl 3 rfl) ?_
      refine lv_icmp_ge (tgt := 165) hx hb dX12_singers_74 (by decide) (fun c8 => ?_) (fun c8 => ?_)
      · have hf := ite_t c8 hf
        refine lv_iload hx hb dX12_singers_165 (lv_at hl 4 rfl) ?_
        cases hf
        exact s_iret hx hb hr hI.2.2 hI.1 hlocks dX12_singers_167
      · have hf := ite_f c8 hf
        refine lv_iload_n hx hb dX12_singers_77 rfl (lv_at hl 2 rfl) ?_
        refine lv_i2l (v := (x3.toInt64)) hx hb dX12_singers_78 rfl ?_
        refine lv_iconst (v := 3) hx hb dX12_singers_79 (by decide) ?_
        refine lv_iload hx hb dX12_singers_80 (lv_at hl 5 rfl) ?_
        refine lv_imul hx hb dX12_singers_82 ?_
        refine lv_i2l (v := ((3 * x6).toInt64)) hx hb dX12_singers_83 rfl ?_
        refine lv_ladd hx hb dX12_singers_84 ?_
        obtain ⟨w7_9, ew7_9, hf⟩ := bnd_i hf
        refine s_nmL ew7_9 ?_
        refine lv_lstore (lv' := [(7, .long w7_9), (0, .ref (ad 0)), (1, .int x1), (3, .int x3), (4, .int x4), (5, .int x5), (6, .int x6)]) hx hb dX12_singers_85 hl (by decide) rfl (fun ls hl => ?_)
        refine lv_lload hx hb dX12_singers_87 (lv_at hl 0 rfl) ?_
        refine lv_lconst (v := 0) hx hb dX12_singers_89 (by decide) ?_
        refine W.lcmp hx hb dX12_singers_90 ?_
        refine lv_if_lt (tgt := 111) hx hb dX12_singers_91 (by decide) (fun c10 => ?_) (fun c10 => ?_)
        · have hf := ite_t c10 hf
          refine lv_bipush (v := (-12)) hx hb dX12_singers_111 (by decide) ?_
          cases hf
          exact s_iret hx hb hr hI.2.2 hI.1 hlocks dX12_singers_113
        · have hf := ite_f c10 hf
          refine lv_lload hx hb dX12_singers_94 (lv_at hl 0 rfl) ?_
          refine lv_ldc2 (v := 2) hx hb hown (hu _ u6_139) dX12_singers_96 ?_
          refine lv_ladd hx hb dX12_singers_99 ?_
          refine lv_aload_n hx hb dX12_singers_100 rfl (lv_at hl 1 rfl) ?_
          refine s_get (v := .ref (ad 32)) hx hb hu inU12 hown hK hI (mE hE eM_0) rfl 55 (by decide) u5_3 (fun _ h => h) rfl rfl dX12_singers_101 ?_
          refine lv_iload_n hx hb dX12_singers_104 rfl (lv_at hl 2 rfl) ?_
          obtain ⟨h11, hf⟩ := chk_i hf
          refine s_ild hx hb hK hI (mE hE eM_32) (inB_i h11) dX12_singers_105 ?_
          refine lv_i2l (v := ((G 32 x1.toNatClampNeg).toInt64)) hx hb dX12_singers_106 rfl ?_
          refine W.lcmp hx hb dX12_singers_107 ?_
          refine lv_if_lt (tgt := 114) hx hb dX12_singers_108 (by decide) (fun c12 => ?_) (fun c12 => ?_)
          · have hf := ite_t c12 hf
            refine lv_bipush (v := 40) hx hb dX12_singers_114 (by decide) ?_
            refine lv_iload_n hx hb dX12_singers_116 rfl (lv_at hl 2 rfl) ?_
            refine lv_imul hx hb dX12_singers_117 ?_
            refine lv_lload hx hb dX12_singers_118 (lv_at hl 0 rfl) ?_
            refine lv_l2i (v := (w7_9.toInt32)) hx hb dX12_singers_120 rfl ?_
            refine lv_iadd hx hb dX12_singers_121 ?_
            obtain ⟨x9_13, ex9_13, hf⟩ := bnd_i hf
            refine s_nmI ex9_13 ?_
            refine lv_istore (lv' := [(9, .int x9_13), (7, .long w7_9), (0, .ref (ad 0)), (1, .int x1), (3, .int x3), (4, .int x4), (5, .int x5), (6, .int x6)]) hx hb dX12_singers_122 hl (by decide) rfl (fun ls hl => ?_)
            refine lv_aload_n hx hb dX12_singers_124 rfl (lv_at hl 2 rfl) ?_
            refine lv_aload_n hx hb dX12_singers_125 rfl (lv_at hl 2 rfl) ?_
            refine s_get (v := .ref (ad 33)) hx hb hu inU12 hown hK hI (mE hE eM_0) rfl 56 (by decide) u5_4 (fun _ h => h) rfl rfl dX12_singers_126 ?_
            refine lv_iload hx hb dX12_singers_129 (lv_at hl 0 rfl) ?_
            obtain ⟨h14, hf⟩ := chk_i hf
            refine s_ild hx hb hK hI (mE hE eM_33) (inB_i h14) dX12_singers_131 ?_
            refine lv_aload_n hx hb dX12_singers_132 rfl (lv_at hl 2 rfl) ?_
            refine s_get (v := .ref (ad 33)) hx hb hu inU12 hown hK hI (mE hE eM_0) rfl 56 (by decide) u5_4 (fun _ h => h) rfl rfl dX12_singers_133 ?_
            refine lv_iload hx hb dX12_singers_136 (lv_at hl 0 rfl) ?_
            refine lv_iconst (v := 1) hx hb dX12_singers_138 (by decide) ?_
            refine lv_iadd hx hb dX12_singers_139 ?_
            obtain ⟨h15, hf⟩ := chk_i hf
            refine s_ild hx hb hK hI (mE hE eM_33) (inB_i h15) dX12_singers_140 ?_
            refine lv_aload_n hx hb dX12_singers_141 rfl (lv_at hl 2 rfl) ?_
            refine s_get (v := .ref (ad 33)) hx hb hu inU12 hown hK hI (mE hE eM_0) rfl 56 (by decide) u5_4 (fun _ h => h) rfl rfl dX12_singers_142 ?_
            refine lv_iload hx hb dX12_singers_145 (lv_at hl 0 rfl) ?_
            refine lv_iconst (v := 2) hx hb dX12_singers_147 (by decide) ?_
            refine lv_iadd hx hb dX12_singers_148 ?_
            obtain ⟨h16, hf⟩ := chk_i hf
            refine s_ild hx hb hK hI (mE hE eM_33) (inB_i h16) dX12_singers_149 ?_
            obtain ⟨G17, v18, h19, hf⟩ := bndP_i hf
            refine s_afI hI (s_runV (rest := []) (As := [.int (G 33 x9_13.toNatClampNeg), .int (G 33 (x9_13 + 1).toNatClampNeg), .int (G 33 (x9_13 + 2).toNatClampNeg)]) (np := 3) E hK hI (s_B hcl hBs hI) hcl.2 (mE hE eM_0) rfl (c_X12_singer l D K sh ad cy X B hcl hE G L O (G 33 x9_13.toNatClampNeg) (G 33 (x9_13 + 1).toNatClampNeg) (G 33 (x9_13 + 2).toNatClampNeg) h19) kyX12_singer u6_140 u5_132 u5_133 (by decide) rfl hl.1 rfl (Nat.le_of_ble_eq_true rfl) ⟨Nat.zero_le _, Nat.zero_le _⟩ dX12_singers_150) (fun H locs hI => ?_)
            refine lv_if_lt (tgt := 159) hx hb dX12_singers_153 (by decide) (fun c20 => ?_) (fun c20 => ?_)
            · have hf := ite_t c20 hf
              obtain ⟨x6_21, ex6_21, hf⟩ := bnd_i hf
              refine lv_iinc (v := x6_21) (lv' := [(6, .int x6_21), (9, .int x9_13), (7, .long w7_9), (0, .ref (ad 0)), (1, .int x1), (3, .int x3), (4, .int x4), (5, .int x5)]) hx hb dX12_singers_159 hl (k := 7) rfl (by rw [ex6_21]; rfl) (by decide) rfl (fun ls hl => ?_)
              refine lv_goto (tgt := 70) hx hb dX12_singers_162 (by decide) ?_
              exact ih G17 x5 x6_21 H locs ls (lv_sub hl [3, 4, 5, 6, 7, 0] rfl) hI hf
            · have hf := ite_f c20 hf
              obtain ⟨x5_22, ex5_22, hf⟩ := bnd_i hf
              refine lv_iinc (v := x5_22) (lv' := [(5, .int x5_22), (9, .int x9_13), (7, .long w7_9), (0, .ref (ad 0)), (1, .int x1), (3, .int x3), (4, .int x4), (6, .int x6)]) hx hb dX12_singers_156 hl (k := 6) rfl (by rw [ex5_22]; rfl) (by decide) rfl (fun ls hl => ?_)
              obtain ⟨x6_23, ex6_23, hf⟩ := bnd_i hf
              refine lv_iinc (v := x6_23) (lv' := [(6, .int x6_23), (5, .int x5_22), (9, .int x9_13), (7, .long w7_9), (0, .ref (ad 0)), (1, .int x1), (3, .int x3), (4, .int x4)]) hx hb dX12_singers_159 hl (k := 7) rfl (by rw [ex6_23]; rfl) (by decide) rfl (fun ls hl => ?_)
              refine lv_goto (tgt := 70) hx hb dX12_singers_162 (by decide) ?_
              exact ih G17 x5_22 x6_23 H locs ls (lv_sub hl [4, 5, 6, 7, 1, 0] rfl) hI hf
          · have hf := ite_f c12 hf
            refine lv_bipush (v := (-12)) hx hb dX12_singers_111 (by decide) ?_
            cases hf
            exact s_iret hx hb hr hI.2.2 hI.1 hlocks dX12_singers_113
  have B52 : ∀    (G : Mem) (H : Heap) (locs : List Loc) (ls : Array Slot), lv_has ls 10 [(0, .ref (ad 0)), (1, .int x1), (3, .int x3), (4, .int x4)] → IS D K sh ad cy X (AS K ad X) s.heap H locs G L O → j_X12_singers_52 x1 x2 x3 x4 G = some (Gz, vz) → W p l e (rmX 3 0 0) s m args below meth c H locs 0 0 (MQ below (QI (AS K ad X) (PH D K sh ad cy X Gz L O) vz) args s 0 0 (AS K ad X)) (F0 m 52 ls []) := by
    intro  G H locs ls hl hI hf
    rw [j_X12_singers_52] at hf
    refine lv_aload_n hx hb dX12_singers_52 rfl (lv_at hl 0 rfl) ?_
    refine s_get (v := .ref (ad 31)) hx hb hu inU12 hown hK hI (mE hE eM_0) rfl 54 (by decide) u5_2 (fun _ h => h) rfl rfl dX12_singers_53 ?_
    refine lv_iload_n hx hb dX12_singers_56 rfl (lv_at hl 1 rfl) ?_
    obtain ⟨h6, hf⟩ := chk_i hf
    refine s_ild hx hb hK hI (mE hE eM_31) (inB_i h6) dX12_singers_57 ?_
    refine lv_if_ge (tgt := 64) hx hb dX12_singers_58 (by decide) (fun c7 => ?_) (fun c7 => ?_)
    · have hf := ite_t c7 hf
      refine lv_iconst (v := 0) hx hb dX12_singers_64 (by decide) ?_
      refine lv_istore (lv' := [(5, .int 0), (0, .ref (ad 0)), (1, .int x1), (3, .int x3), (4, .int x4)]) hx hb dX12_singers_65 hl (by decide) rfl (fun ls hl => ?_)
      refine lv_iconst (v := 0) hx hb dX12_singers_67 (by decide) ?_
      refine lv_istore (lv' := [(6, .int 0), (5, .int 0), (0, .ref (ad 0)), (1, .int x1), (3, .int x3), (4, .int x4)]) hx hb dX12_singers_68 hl (by decide) rfl (fun ls hl => ?_)
      exact B70   fuel G 0 0 H locs ls (lv_sub hl [2, 3, 4, 5, 1, 0] rfl) hI hf
    · have hf := ite_f c7 hf
      refine lv_bipush (v := (-11)) hx hb dX12_singers_61 (by decide) ?_
      cases hf
      exact s_iret hx hb hr hI.2.2 hI.1 hlocks dX12_singers_63
  rw [f_X12_singers] at hf
  refine lv_iload_n hx hb dX12_singers_0 rfl (lv_at hl 1 rfl) ?_
  refine s_cSP (np := 1) (rest := []) E (c_X12_isSheet l x1 rfl) kyX12_isSheet u6_108 u6_109 (by decide) rfl hl.1 rfl (Nat.le_of_ble_eq_true rfl) ⟨Nat.zero_le _, Nat.zero_le _⟩ dX12_singers_1 ?_
  refine lv_if_eq (tgt := 27) hx hb dX12_singers_4 (by decide) (fun c1 => ?_) (fun c1 => ?_)
  · have hf := ite_t c1 hf
    refine lv_bipush (v := (-2)) hx hb dX12_singers_27 (by decide) ?_
    cases hf
    exact s_iret hx hb hr hI.2.2 hI.1 hlocks dX12_singers_29
  · have hf := ite_f c1 hf
    refine lv_iload_n hx hb dX12_singers_7 rfl (lv_at hl 2 rfl) ?_
    refine lv_iconst (v := 0) hx hb dX12_singers_8 (by decide) ?_
    refine lv_iconst (v := 2) hx hb dX12_singers_9 (by decide) ?_
    refine s_cSP (np := 3) (rest := []) E (c_X12_in l x2 0 2 rfl) kyX12_in u5_128 u5_129 (by decide) rfl hl.1 rfl (Nat.le_of_ble_eq_true rfl) ⟨Nat.zero_le _, Nat.zero_le _⟩ dX12_singers_10 ?_
    refine lv_if_eq (tgt := 27) hx hb dX12_singers_13 (by decide) (fun c2 => ?_) (fun c2 => ?_)
    · have hf := ite_t c2 hf
      refine lv_bipush (v := (-2)) hx hb dX12_singers_27 (by decide) ?_
      cases hf
      exact s_iret hx hb hr hI.2.2 hI.1 hlocks dX12_singers_29
    · have hf := ite_f c2 hf
      refine lv_iload hx hb dX12_singers_16 (lv_at hl 4 rfl) ?_
      refine lv_iconst (v := 0) hx hb dX12_singers_18 (by decide) ?_
      refine lv_bipush (v := 10) hx hb dX12_singers_19 (by decide) ?_
      refine s_cSP (np := 3) (rest := []) E (c_X12_in l x4 0 10 rfl) kyX12_in u5_128 u5_129 (by decide) rfl hl.1 rfl (Nat.le_of_ble_eq_true rfl) ⟨Nat.zero_le _, Nat.zero_le _⟩ dX12_singers_21 ?_
      refine lv_if_ne (tgt := 30) hx hb dX12_singers_24 (by decide) (fun c3 => ?_) (fun c3 => ?_)
      · have hf := ite_f c3 hf
        refine lv_aload_n hx hb dX12_singers_30 rfl (lv_at hl 0 rfl) ?_
        refine s_get (v := .ref (ad 31)) hx hb hu inU12 hown hK hI (mE hE eM_0) rfl 54 (by decide) u5_2 (fun _ h => h) rfl rfl dX12_singers_31 ?_
        refine lv_iload_n hx hb dX12_singers_34 rfl (lv_at hl 1 rfl) ?_
        obtain ⟨h4, hf⟩ := chk_i hf
        refine s_ild hx hb hK hI (mE hE eM_31) (inB_i h4) dX12_singers_35 ?_
        refine lv_if_lt (tgt := 52) hx hb dX12_singers_36 (by decide) (fun c5 => ?_) (fun c5 => ?_)
        · have hf := ite_t c5 hf
          exact B52    G H locs ls (lv_sub hl [0, 1, 3, 4] rfl) hI hf
        · have hf := ite_f c5 hf
          refine lv_aload_n hx hb dX12_singers_39 rfl (lv_at hl 0 rfl) ?_
          refine s_get (v := .ref (ad 31)) hx hb hu inU12 hown hK hI (mE hE eM_0) rfl 54 (by decide) u5_2 (fun _ h => h) rfl rfl dX12_singers_40 ?_
          refine lv_iload_n hx hb dX12_singers_43 rfl (lv_at hl 1 rfl) ?_
          obtain ⟨h24, hf⟩ := chk_i hf
          refine s_ild hx hb hK hI (mE hE eM_31) (inB_i h24) dX12_singers_44 ?_
          refine lv_iload_n hx hb dX12_singers_45 rfl (lv_at hl 2 rfl) ?_
          refine lv_icmp_eq (tgt := 52) hx hb dX12_singers_46 (by decide) (fun c25 => ?_) (fun c25 => ?_)
          · have hf := ite_t c25 hf
            exact B52    G H locs ls (lv_sub hl [0, 1, 3, 4] rfl) hI hf
          · have hf := ite_f c25 hf
            refine lv_bipush (v := (-13)) hx hb dX12_singers_49 (by decide) ?_
            cases hf
            exact s_iret hx hb hr hI.2.2 hI.1 hlocks dX12_singers_51
      · have hf := ite_t c3 hf
        refine lv_bipush (v := (-2)) hx hb dX12_singers_27 (by decide) ?_
        cases hf
        exact s_iret hx hb hr hI.2.2 hI.1 hlocks dX12_singers_29
noncomputable def f_X12_isUnder  (x0 : Int32) (x1 : Int32) : Int32 := (if x1 = 0 then 1 else (if x0 = x1 then 1 else (if x1 = 2 then (if x0 = 3 then 1 else (if x1 = 1 then (if x0 = 4 then 1 else 0) else 0)) else (if x1 = 1 then (if x0 = 4 then 1 else 0) else 0))))
theorem b_X12_isUnder (x0 : Int32) (x1 : Int32) : isB (f_X12_isUnder x0 x1) = true := by
  unfold f_X12_isUnder
  first | (repeat' split) <;> rfl
theorem kyX12_isUnder : Ky yX12_isUnder cX12_isUnder 2 (some FieldType.boolean) 2 := ⟨u6_147, u1_15, by decide, by decide, by decide, by decide +kernel⟩
set_option maxHeartbeats 4000000 in
set_option maxRecDepth 100000 in
theorem c_X12_isUnder (l : Launch) (x0 : Int32) (x1 : Int32)  {vz : Int32} (hf : f_X12_isUnder x0 x1 = vz) : Met l yX12_isUnder (wsU yX12_isUnder cX12_isUnder 2 (some FieldType.boolean)) (rmX 1 0 0) (va_Pc [.int x0, .int x1] (fun _ => True)) (QP vz) 0 0 noA := by
  refine s_met0 (by decide) (Nat.le_of_ble_eq_true rfl) ?_
  intro p e s m args below meth c ls E hl
  have hl : lv_has ls 2 [(0, .int x0), (1, .int x1)] := hl
  have E : Cx p s m args meth c RX12 cX12_isUnder 2 (some FieldType.boolean) := E
  obtain ⟨hx, hb, hr, hml, hown, hu, hlocks⟩ := id E
  rw [f_X12_isUnder] at hf
  refine lv_iload_n hx hb dX12_isUnder_0 rfl (lv_at hl 1 rfl) ?_
  refine lv_if_eq (tgt := 29) hx hb dX12_isUnder_1 (by decide) (fun c1 => ?_) (fun c1 => ?_)
  · have hf := ite_t c1 hf
    refine lv_iconst (v := 1) hx hb dX12_isUnder_29 (by decide) ?_
    refine lv_goto (tgt := 34) hx hb dX12_isUnder_30 (by decide) ?_
    subst hf
    exact s_iretP rfl E dX12_isUnder_34
  · have hf := ite_f c1 hf
    refine lv_iload_n hx hb dX12_isUnder_4 rfl (lv_at hl 0 rfl) ?_
    refine lv_iload_n hx hb dX12_isUnder_5 rfl (lv_at hl 1 rfl) ?_
    refine lv_icmp_eq (tgt := 29) hx hb dX12_isUnder_6 (by decide) (fun c2 => ?_) (fun c2 => ?_)
    · have hf := ite_t c2 hf
      refine lv_iconst (v := 1) hx hb dX12_isUnder_29 (by decide) ?_
      refine lv_goto (tgt := 34) hx hb dX12_isUnder_30 (by decide) ?_
      subst hf
      exact s_iretP rfl E dX12_isUnder_34
    · have hf := ite_f c2 hf
      refine lv_iload_n hx hb dX12_isUnder_9 rfl (lv_at hl 1 rfl) ?_
      refine lv_iconst (v := 2) hx hb dX12_isUnder_10 (by decide) ?_
      refine lv_icmp_ne (tgt := 19) hx hb dX12_isUnder_11 (by decide) (fun c3 => ?_) (fun c3 => ?_)
      · have hf := ite_f c3 hf
        refine lv_iload_n hx hb dX12_isUnder_19 rfl (lv_at hl 1 rfl) ?_
        refine lv_iconst (v := 1) hx hb dX12_isUnder_20 (by decide) ?_
        refine lv_icmp_ne (tgt := 33) hx hb dX12_isUnder_21 (by decide) (fun c4 => ?_) (fun c4 => ?_)
        · have hf := ite_f c4 hf
          refine lv_iconst (v := 0) hx hb dX12_isUnder_33 (by decide) ?_
          subst hf
          exact s_iretP rfl E dX12_isUnder_34
        · have hf := ite_t c4 hf
          refine lv_iload_n hx hb dX12_isUnder_24 rfl (lv_at hl 0 rfl) ?_
          refine lv_iconst (v := 4) hx hb dX12_isUnder_25 (by decide) ?_
          refine lv_icmp_ne (tgt := 33) hx hb dX12_isUnder_26 (by decide) (fun c5 => ?_) (fun c5 => ?_)
          · have hf := ite_f c5 hf
            refine lv_iconst (v := 0) hx hb dX12_isUnder_33 (by decide) ?_
            subst hf
            exact s_iretP rfl E dX12_isUnder_34
          · have hf := ite_t c5 hf
            refine lv_iconst (v := 1) hx hb dX12_isUnder_29 (by decide) ?_
            refine lv_goto (tgt := 34) hx hb dX12_isUnder_30 (by decide) ?_
            subst hf
            exact s_iretP rfl E dX12_isUnder_34
      · have hf := ite_t c3 hf
        refine lv_iload_n hx hb dX12_isUnder_14 rfl (lv_at hl 0 rfl) ?_
        refine lv_iconst (v := 3) hx hb dX12_isUnder_15 (by decide) ?_
        refine lv_icmp_eq (tgt := 29) hx hb dX12_isUnder_16 (by decide) (fun c6 => ?_) (fun c6 => ?_)
        · have hf := ite_t c6 hf
          refine lv_iconst (v := 1) hx hb dX12_isUnder_29 (by decide) ?_
          refine lv_goto (tgt := 34) hx hb dX12_isUnder_30 (by decide) ?_
          subst hf
          exact s_iretP rfl E dX12_isUnder_34
        · have hf := ite_f c6 hf
          refine lv_iload_n hx hb dX12_isUnder_19 rfl (lv_at hl 1 rfl) ?_
          refine lv_iconst (v := 1) hx hb dX12_isUnder_20 (by decide) ?_
          refine lv_icmp_ne (tgt := 33) hx hb dX12_isUnder_21 (by decide) (fun c7 => ?_) (fun c7 => ?_)
          · have hf := ite_f c7 hf
            refine lv_iconst (v := 0) hx hb dX12_isUnder_33 (by decide) ?_
            subst hf
            exact s_iretP rfl E dX12_isUnder_34
          · have hf := ite_t c7 hf
            refine lv_iload_n hx hb dX12_isUnder_24 rfl (lv_at hl 0 rfl) ?_
            refine lv_iconst (v := 4) hx hb dX12_isUnder_25 (by decide) ?_
            refine lv_icmp_ne (tgt := 33) hx hb dX12_isUnder_26 (by decide) (fun c8 => ?_) (fun c8 => ?_)
            · have hf := ite_f c8 hf
              refine lv_iconst (v := 0) hx hb dX12_isUnder_33 (by decide) ?_
              subst hf
              exact s_iretP rfl E dX12_isUnder_34
            · have hf := ite_t c8 hf
              refine lv_iconst (v := 1) hx hb dX12_isUnder_29 (by decide) ?_
              refine lv_goto (tgt := 34) hx hb dX12_isUnder_30 (by decide) ?_
              subst hf
              exact s_iretP rfl E dX12_isUnder_34
noncomputable def f_X12_taken (G : Mem) (x1 : Int32) (x2 : Int32) : Option (Int32) := (if (f_X12_in x2 0 5) = 0 then some (-2) else (if (f_X12_isSinger G x1) = 0 then some (-11) else chk (inB x1 10) ((if (f_X12_isUnder (G 5 x1.toNatClampNeg) x2) = 0 then some (-13) else chk (inB x1 10) (some (G 8 x1.toNatClampNeg))))))
theorem kyX12_taken : Ky yX12_taken cX12_taken 3 (some FieldType.int) 2 := ⟨u6_144, u1_15, by decide, by decide, by decide, by decide +kernel⟩
set_option maxHeartbeats 4000000 in
set_option maxRecDepth 100000 in
theorem c_X12_taken (l : Launch) (D : va_G) (K : List Nat) (sh : Nat → Ent) (ad : Nat → Nat) (cy : Nat → ClassId) (X : va_W) (B : State → Prop) (hcl : Bcl (AS K ad X) B) (hE : ∀ q ∈ shM, q.1 ∈ K ∧ sh q.1 = q.2) (G : Mem) (L : MemL) (O : MemO) (x1 : Int32) (x2 : Int32)  {vz : Int32} (hf : f_X12_taken G x1 x2 = some vz) : Met l yX12_taken (wsU yX12_taken cX12_taken 3 (some FieldType.int)) (rmX 3 0 0) (va_Pc [.ref (ad 0), .int x1, .int x2] (PS D K sh ad cy X B G L O)) (QI (AS K ad X) (PH D K sh ad cy X G L O) vz) 0 0 (AS K ad X) := by
  refine s_met (by decide) (Nat.le_of_ble_eq_true rfl) ?_
  intro p e s m args below meth c ls H locs E hK hBs hnm hI hl
  have hl : lv_has ls 3 [(0, .ref (ad 0)), (1, .int x1), (2, .int x2)] := hl
  have E : Cx p s m args meth c RX12 cX12_taken 3 (some FieldType.int) := E
  obtain ⟨hx, hb, hr, hml, hown, hu, hlocks⟩ := id E
  rw [f_X12_taken] at hf
  refine lv_iload_n hx hb dX12_taken_0 rfl (lv_at hl 2 rfl) ?_
  refine lv_iconst (v := 0) hx hb dX12_taken_1 (by decide) ?_
  refine lv_iconst (v := 5) hx hb dX12_taken_2 (by decide) ?_
  refine s_cSP (np := 3) (rest := []) E (c_X12_in l x2 0 5 rfl) kyX12_in u5_128 u5_129 (by decide) rfl hl.1 rfl (Nat.le_of_ble_eq_true rfl) ⟨Nat.zero_le _, Nat.zero_le _⟩ dX12_taken_3 ?_
  refine lv_if_ne (tgt := 12) hx hb dX12_taken_6 (by decide) (fun c1 => ?_) (fun c1 => ?_)
  · have hf := ite_f c1 hf
    refine lv_aload_n hx hb dX12_taken_12 rfl (lv_at hl 0 rfl) ?_
    refine lv_iload_n hx hb dX12_taken_13 rfl (lv_at hl 1 rfl) ?_
    refine s_afI hI (s_runV (rest := []) (As := [.int x1]) (np := 1) E hK hI (s_B hcl hBs hI) hcl.2 (mE hE eM_0) rfl (c_X12_isSinger l D K sh ad cy X B hcl hE G L O x1 rfl) kyX12_isSinger u5_139 u5_141 up_25 (by decide) rfl hl.1 rfl (Nat.le_of_ble_eq_true rfl) ⟨Nat.zero_le _, Nat.zero_le _⟩ dX12_taken_14) (fun H locs hI => ?_)
    refine lv_if_ne (tgt := 23) hx hb dX12_taken_17 (by decide) (fun c2 => ?_) (fun c2 => ?_)
    · have hf := ite_f c2 hf
      refine lv_aload_n hx hb dX12_taken_23 rfl (lv_at hl 0 rfl) ?_
      refine s_get (v := .ref (ad 5)) hx hb hu inU12 hown hK hI (mE hE eM_0) rfl 8 (by decide) u4_196 (fun _ h => h) rfl rfl dX12_taken_24 ?_
      refine lv_iload_n hx hb dX12_taken_27 rfl (lv_at hl 1 rfl) ?_
      obtain ⟨h3, hf⟩ := chk_i hf
      refine s_ild hx hb hK hI (mE hE eM_5) (inB_i h3) dX12_taken_28 ?_
      refine lv_iload_n hx hb dX12_taken_29 rfl (lv_at hl 2 rfl) ?_
      refine s_cSP (np := 2) (rest := []) E (c_X12_isUnder l (G 5 x1.toNatClampNeg) x2 rfl) kyX12_isUnder u6_145 u6_146 (by decide) rfl hl.1 rfl (Nat.le_of_ble_eq_true rfl) ⟨Nat.zero_le _, Nat.zero_le _⟩ dX12_taken_30 ?_
      refine lv_if_eq (tgt := 45) hx hb dX12_taken_33 (by decide) (fun c4 => ?_) (fun c4 => ?_)
      · have hf := ite_t c4 hf
        refine lv_bipush (v := (-13)) hx hb dX12_taken_45 (by decide) ?_
        cases hf
        exact s_iret hx hb hr hI.2.2 hI.1 hlocks dX12_taken_47
      · have hf := ite_f c4 hf
        refine lv_aload_n hx hb dX12_taken_36 rfl (lv_at hl 0 rfl) ?_
        refine s_get (v := .ref (ad 8)) hx hb hu inU12 hown hK hI (mE hE eM_0) rfl 11 (by decide) u4_199 (fun _ h => h) rfl rfl dX12_taken_37 ?_
        refine lv_iload_n hx hb dX12_taken_40 rfl (lv_at hl 1 rfl) ?_
        obtain ⟨h5, hf⟩ := chk_i hf
        refine s_ild hx hb hK hI (mE hE eM_8) (inB_i h5) dX12_taken_41 ?_
        refine lv_goto (tgt := 47) hx hb dX12_taken_42 (by decide) ?_
        cases hf
        exact s_iret hx hb hr hI.2.2 hI.1 hlocks dX12_taken_47
    · have hf := ite_t c2 hf
      refine lv_bipush (v := (-11)) hx hb dX12_taken_20 (by decide) ?_
      cases hf
      exact s_iret hx hb hr hI.2.2 hI.1 hlocks dX12_taken_22
  · have hf := ite_t c1 hf
    refine lv_bipush (v := (-2)) hx hb dX12_taken_9 (by decide) ?_
    cases hf
    exact s_iret hx hb hr hI.2.2 hI.1 hlocks dX12_taken_11
