def ihM (rc : Nat → Mem → Option Mem) (d : Nat) : Prop := ∀ (l : Launch) (D : va_G) (K : List Nat) (sh : Nat → Ent) (ad : Nat → Nat) (cy : Nat → ClassId) (X : va_W) (B : State → Prop) (hcl : Bcl (AS K ad X) B) (hE : ∀ q ∈ shM, q.1 ∈ K ∧ sh q.1 = q.2) (G : Mem) (L : MemL) (O : MemO) (Gz : Mem), (rc 0 G = some Gz → Met l yX12_either (wsU yX12_either cX12_either 1 none) (rmX (d + 4) 0 0) (va_Pc [.ref (ad 0)] (PS D K sh ad cy X B G L O)) (QV (AS K ad X) (PH D K sh ad cy X Gz L O)) 0 0 (AS K ad X)) ∧ (rc 1 G = some Gz → Met l yX12_all (wsU yX12_all cX12_all 1 none) (rmX (d + 4) 0 0) (va_Pc [.ref (ad 0)] (PS D K sh ad cy X B G L O)) (QV (AS K ad X) (PH D K sh ad cy X Gz L O)) 0 0 (AS K ad X)) ∧ (rc 2 G = some Gz → Met l yX12_denied (wsU yX12_denied cX12_denied 2 none) (rmX (d + 4) 0 0) (va_Pc [.ref (ad 0)] (PS D K sh ad cy X B G L O)) (QV (AS K ad X) (PH D K sh ad cy X Gz L O)) 0 0 (AS K ad X)) ∧ (rc 3 G = some Gz → Met l yX12_sum (wsU yX12_sum cX12_sum 2 none) (rmX (d + 4) 0 0) (va_Pc [.ref (ad 0)] (PS D K sh ad cy X B G L O)) (QV (AS K ad X) (PH D K sh ad cy X Gz L O)) 0 0 (AS K ad X)) ∧ (rc 4 G = some Gz → Met l yX12_term (wsU yX12_term cX12_term 1 none) (rmX (d + 4) 0 0) (va_Pc [.ref (ad 0)] (PS D K sh ad cy X B G L O)) (QV (AS K ad X) (PH D K sh ad cy X Gz L O)) 0 0 (AS K ad X)) ∧ (rc 5 G = some Gz → Met l yX12_one (wsU yX12_one cX12_one 1 none) (rmX (d + 4) 0 0) (va_Pc [.ref (ad 0)] (PS D K sh ad cy X B G L O)) (QV (AS K ad X) (PH D K sh ad cy X Gz L O)) 0 0 (AS K ad X))
theorem kyX12_either : Ky yX12_either cX12_either 1 none 0 := ⟨u5_196, u1_15, by decide, by decide, by decide, by decide +kernel⟩
theorem kyX12_all : Ky yX12_all cX12_all 1 none 0 := ⟨u5_200, u1_15, by decide, by decide, by decide, by decide +kernel⟩
theorem kyX12_denied : Ky yX12_denied cX12_denied 2 none 0 := ⟨u5_204, u1_15, by decide, by decide, by decide, by decide +kernel⟩
theorem kyX12_sum : Ky yX12_sum cX12_sum 2 none 0 := ⟨u5_216, u1_15, by decide, by decide, by decide, by decide +kernel⟩
theorem kyX12_term : Ky yX12_term cX12_term 1 none 0 := ⟨u5_220, u1_15, by decide, by decide, by decide, by decide +kernel⟩
theorem kyX12_one : Ky yX12_one cX12_one 1 none 0 := ⟨u5_224, u1_15, by decide, by decide, by decide, by decide +kernel⟩
noncomputable def q_X12_either_4 (rc : Nat → Mem → Option Mem)  (rec : Mem → Option (Mem)) : Mem → Option (Mem) := fun G => (if (f_X12_isKey G 13) = 0 then some G else bndO (f_X12_next G) (fun G4 => bndO (rc 1 G4) (fun G6 => bndO (f_X12_addStep G6 5 0) (fun G8 => rec G8))))
noncomputable def f_X12_either (rc : Nat → Mem → Option Mem) (G : Mem)  : Option (Mem) := bndO (rc 1 G) (fun G1 => iter (q_X12_either_4 rc) fuel G1)
set_option maxHeartbeats 4000000 in
set_option maxRecDepth 100000 in
theorem c_X12_either (rc : Nat → Mem → Option Mem) (d : Nat) (ihg : ihM rc d) (l : Launch) (D : va_G) (K : List Nat) (sh : Nat → Ent) (ad : Nat → Nat) (cy : Nat → ClassId) (X : va_W) (B : State → Prop) (hcl : Bcl (AS K ad X) B) (hE : ∀ q ∈ shM, q.1 ∈ K ∧ sh q.1 = q.2) (G : Mem) (L : MemL) (O : MemO)  {Gz : Mem} (hf : f_X12_either rc G = some Gz) : Met l yX12_either (wsU yX12_either cX12_either 1 none) (rmX (d + 1 + 4) 0 0) (va_Pc [.ref (ad 0)] (PS D K sh ad cy X B G L O)) (QV (AS K ad X) (PH D K sh ad cy X Gz L O)) 0 0 (AS K ad X) := by
  refine s_met (by decide) (Nat.le_of_ble_eq_true rfl) ?_
  intro p e s m args below meth c ls H locs E hK hBs hnm hI hl
  have hl : lv_has ls 1 [(0, .ref (ad 0))] := hl
  have E : Cx p s m args meth c RX12 cX12_either 1 none := E
  obtain ⟨hx, hb, hr, hml, hown, hu, hlocks⟩ := id E
  have B4 : ∀   (n : Nat) (G : Mem) (H : Heap) (locs : List Loc) (ls : Array Slot), lv_has ls 1 [(0, .ref (ad 0))] → IS D K sh ad cy X (AS K ad X) s.heap H locs G L O → iter (q_X12_either_4 rc) n G = some Gz → W p l e (rmX (d + 1 + 4) 0 0) s m args below meth c H locs 0 0 (MQ below (QV (AS K ad X) (PH D K sh ad cy X Gz L O)) args s 0 0 (AS K ad X)) (F0 m 4 ls []) := by
    intro n
    induction n with
    | zero => intro G H locs ls hl hI hf; exact iter_0 hf
    | succ n ih =>
      intro G H locs ls hl hI hf
      have hf : q_X12_either_4 rc (iter (q_X12_either_4 rc) n) G = some Gz := hf
      rw [q_X12_either_4] at hf
      refine lv_aload_n hx hb dX12_either_4 rfl (lv_at hl 0 rfl) ?_
      refine lv_bipush (v := 13) hx hb dX12_either_5 (by decide) ?_
      refine s_afI hI (s_runV (rest := []) (As := [.int 13]) (np := 1) E hK hI (s_B hcl hBs hI) hcl.2 (mE hE eM_0) rfl (c_X12_isKey l D K sh ad cy X B hcl hE G L O 13 rfl) kyX12_isKey u5_185 u5_187 up_32 (by omega) rfl hl.1 rfl (Nat.le_of_ble_eq_true rfl) ⟨Nat.zero_le _, Nat.zero_le _⟩ dX12_either_7) (fun H locs hI => ?_)
      refine lv_if_eq (tgt := 30) hx hb dX12_either_10 (by decide) (fun c3 => ?_) (fun c3 => ?_)
      · have hf := ite_t c3 hf
        cases hf
        exact s_vret hx hb hr hI.2.2 hI.1 hlocks dX12_either_30
      · have hf := ite_f c3 hf
        refine lv_aload_n hx hb dX12_either_13 rfl (lv_at hl 0 rfl) ?_
        obtain ⟨G4, h5, hf⟩ := bndO_i hf
        refine s_afV hI (s_runV (rest := []) (As := []) (np := 0) E hK hI (s_B hcl hBs hI) hcl.2 (mE hE eM_0) rfl (c_X12_next l D K sh ad cy X B hcl hE G L O  h5) kyX12_next u5_167 u5_169 up_29 (by omega) rfl hl.1 rfl (Nat.le_of_ble_eq_true rfl) ⟨Nat.zero_le _, Nat.zero_le _⟩ dX12_either_14) (fun H locs hI => ?_)
        refine lv_aload_n hx hb dX12_either_17 rfl (lv_at hl 0 rfl) ?_
        obtain ⟨G6, h7, hf⟩ := bndO_i hf
        refine s_afV hI (s_runV (rest := []) (As := []) (np := 0) E hK hI (s_B hcl hBs hI) hcl.2 (mE hE eM_0) rfl ((ihg l D K sh ad cy X B hcl hE G4 L O G6).2.1 h7) kyX12_all u5_197 u5_199 up_35 (by omega) rfl hl.1 rfl (Nat.le_of_ble_eq_true rfl) ⟨Nat.zero_le _, Nat.zero_le _⟩ dX12_either_18) (fun H locs hI => ?_)
        refine lv_aload_n hx hb dX12_either_21 rfl (lv_at hl 0 rfl) ?_
        refine lv_iconst (v := 5) hx hb dX12_either_22 (by decide) ?_
        refine lv_iconst (v := 0) hx hb dX12_either_23 (by decide) ?_
        obtain ⟨G8, h9, hf⟩ := bndO_i hf
        refine s_afV hI (s_runV (rest := []) (As := [.int 5, .int 0]) (np := 2) E hK hI (s_B hcl hBs hI) hcl.2 (mE hE eM_0) rfl (c_X12_addStep l D K sh ad cy X B hcl hE G6 L O 5 0 h9) kyX12_addStep u5_209 u5_211 up_38 (by omega) rfl hl.1 rfl (Nat.le_of_ble_eq_true rfl) ⟨Nat.zero_le _, Nat.zero_le _⟩ dX12_either_24) (fun H locs hI => ?_)
        refine lv_goto (tgt := 4) hx hb dX12_either_27 (by decide) ?_
        exact ih G8 H locs ls (lv_sub hl [0] rfl) hI hf
  rw [f_X12_either] at hf
  refine lv_aload_n hx hb dX12_either_0 rfl (lv_at hl 0 rfl) ?_
  obtain ⟨G1, h2, hf⟩ := bndO_i hf
  refine s_afV hI (s_runV (rest := []) (As := []) (np := 0) E hK hI (s_B hcl hBs hI) hcl.2 (mE hE eM_0) rfl ((ihg l D K sh ad cy X B hcl hE G L O G1).2.1 h2) kyX12_all u5_197 u5_199 up_35 (by omega) rfl hl.1 rfl (Nat.le_of_ble_eq_true rfl) ⟨Nat.zero_le _, Nat.zero_le _⟩ dX12_either_1) (fun H locs hI => ?_)
  exact B4   fuel G1 H locs ls (lv_sub hl [0] rfl) hI hf

noncomputable def q_X12_all_4 (rc : Nat → Mem → Option Mem)  (rec : Mem → Option (Mem)) : Mem → Option (Mem) := fun G => (if (f_X12_isKey G 14) = 0 then some G else bndO (f_X12_next G) (fun G4 => bndO (rc 2 G4) (fun G6 => bndO (f_X12_addStep G6 6 0) (fun G8 => rec G8))))
noncomputable def f_X12_all (rc : Nat → Mem → Option Mem) (G : Mem)  : Option (Mem) := bndO (rc 2 G) (fun G1 => iter (q_X12_all_4 rc) fuel G1)
set_option maxHeartbeats 4000000 in
set_option maxRecDepth 100000 in
theorem c_X12_all (rc : Nat → Mem → Option Mem) (d : Nat) (ihg : ihM rc d) (l : Launch) (D : va_G) (K : List Nat) (sh : Nat → Ent) (ad : Nat → Nat) (cy : Nat → ClassId) (X : va_W) (B : State → Prop) (hcl : Bcl (AS K ad X) B) (hE : ∀ q ∈ shM, q.1 ∈ K ∧ sh q.1 = q.2) (G : Mem) (L : MemL) (O : MemO)  {Gz : Mem} (hf : f_X12_all rc G = some Gz) : Met l yX12_all (wsU yX12_all cX12_all 1 none) (rmX (d + 1 + 4) 0 0) (va_Pc [.ref (ad 0)] (PS D K sh ad cy X B G L O)) (QV (AS K ad X) (PH D K sh ad cy X Gz L O)) 0 0 (AS K ad X) := by
  refine s_met (by decide) (Nat.le_of_ble_eq_true rfl) ?_
  intro p e s m args below meth c ls H locs E hK hBs hnm hI hl
  have hl : lv_has ls 1 [(0, .ref (ad 0))] := hl
  have E : Cx p s m args meth c RX12 cX12_all 1 none := E
  obtain ⟨hx, hb, hr, hml, hown, hu, hlocks⟩ := id E
  have B4 : ∀   (n : Nat) (G : Mem) (H : Heap) (locs : List Loc) (ls : Array Slot), lv_has ls 1 [(0, .ref (ad 0))] → IS D K sh ad cy X (AS K ad X) s.heap H locs G L O → iter (q_X12_all_4 rc) n G = some Gz → W p l e (rmX (d + 1 + 4) 0 0) s m args below meth c H locs 0 0 (MQ below (QV (AS K ad X) (PH D K sh ad cy X Gz L O)) args s 0 0 (AS K ad X)) (F0 m 4 ls []) := by
    intro n
    induction n with
    | zero => intro G H locs ls hl hI hf; exact iter_0 hf
    | succ n ih =>
      intro G H locs ls hl hI hf
      have hf : q_X12_all_4 rc (iter (q_X12_all_4 rc) n) G = some Gz := hf
      rw [q_X12_all_4] at hf
      refine lv_aload_n hx hb dX12_all_4 rfl (lv_at hl 0 rfl) ?_
      refine lv_bipush (v := 14) hx hb dX12_all_5 (by decide) ?_
      refine s_afI hI (s_runV (rest := []) (As := [.int 14]) (np := 1) E hK hI (s_B hcl hBs hI) hcl.2 (mE hE eM_0) rfl (c_X12_isKey l D K sh ad cy X B hcl hE G L O 14 rfl) kyX12_isKey u5_185 u5_187 up_32 (by omega) rfl hl.1 rfl (Nat.le_of_ble_eq_true rfl) ⟨Nat.zero_le _, Nat.zero_le _⟩ dX12_all_7) (fun H locs hI => ?_)
      refine lv_if_eq (tgt := 31) hx hb dX12_all_10 (by decide) (fun c3 => ?_) (fun c3 => ?_)
      · have hf := ite_t c3 hf
        cases hf
        exact s_vret hx hb hr hI.2.2 hI.1 hlocks dX12_all_31
      · have hf := ite_f c3 hf
        refine lv_aload_n hx hb dX12_all_13 rfl (lv_at hl 0 rfl) ?_
        obtain ⟨G4, h5, hf⟩ := bndO_i hf
        refine s_afV hI (s_runV (rest := []) (As := []) (np := 0) E hK hI (s_B hcl hBs hI) hcl.2 (mE hE eM_0) rfl (c_X12_next l D K sh ad cy X B hcl hE G L O  h5) kyX12_next u5_167 u5_169 up_29 (by omega) rfl hl.1 rfl (Nat.le_of_ble_eq_true rfl) ⟨Nat.zero_le _, Nat.zero_le _⟩ dX12_all_14) (fun H locs hI => ?_)
        refine lv_aload_n hx hb dX12_all_17 rfl (lv_at hl 0 rfl) ?_
        obtain ⟨G6, h7, hf⟩ := bndO_i hf
        refine s_afV hI (s_runV (rest := []) (As := []) (np := 0) E hK hI (s_B hcl hBs hI) hcl.2 (mE hE eM_0) rfl ((ihg l D K sh ad cy X B hcl hE G4 L O G6).2.2.1 h7) kyX12_denied u5_201 u5_203 up_36 (by omega) rfl hl.1 rfl (Nat.le_of_ble_eq_true rfl) ⟨Nat.zero_le _, Nat.zero_le _⟩ dX12_all_18) (fun H locs hI => ?_)
        refine lv_aload_n hx hb dX12_all_21 rfl (lv_at hl 0 rfl) ?_
        refine lv_bipush (v := 6) hx hb dX12_all_22 (by decide) ?_
        refine lv_iconst (v := 0) hx hb dX12_all_24 (by decide) ?_
        obtain ⟨G8, h9, hf⟩ := bndO_i hf
        refine s_afV hI (s_runV (rest := []) (As := [.int 6, .int 0]) (np := 2) E hK hI (s_B hcl hBs hI) hcl.2 (mE hE eM_0) rfl (c_X12_addStep l D K sh ad cy X B hcl hE G6 L O 6 0 h9) kyX12_addStep u5_209 u5_211 up_38 (by omega) rfl hl.1 rfl (Nat.le_of_ble_eq_true rfl) ⟨Nat.zero_le _, Nat.zero_le _⟩ dX12_all_25) (fun H locs hI => ?_)
        refine lv_goto (tgt := 4) hx hb dX12_all_28 (by decide) ?_
        exact ih G8 H locs ls (lv_sub hl [0] rfl) hI hf
  rw [f_X12_all] at hf
  refine lv_aload_n hx hb dX12_all_0 rfl (lv_at hl 0 rfl) ?_
  obtain ⟨G1, h2, hf⟩ := bndO_i hf
  refine s_afV hI (s_runV (rest := []) (As := []) (np := 0) E hK hI (s_B hcl hBs hI) hcl.2 (mE hE eM_0) rfl ((ihg l D K sh ad cy X B hcl hE G L O G1).2.2.1 h2) kyX12_denied u5_201 u5_203 up_36 (by omega) rfl hl.1 rfl (Nat.le_of_ble_eq_true rfl) ⟨Nat.zero_le _, Nat.zero_le _⟩ dX12_all_1) (fun H locs hI => ?_)
  exact B4   fuel G1 H locs ls (lv_sub hl [0] rfl) hI hf

noncomputable def j_X12_denied_61 (rc : Nat → Mem → Option Mem)  (G : Mem) : Option (Mem) := bnd (G 0 26) (fun x1_5 => bndO (f_X12_next G) (fun G6 => bndO (rc 3 G6) (fun G8 => bndO (f_X12_addStep G8 x1_5 0) (fun G10 => some G10))))
noncomputable def f_X12_denied (rc : Nat → Mem → Option Mem) (G : Mem)  : Option (Mem) := (if (f_X12_isKey G 15) = 0 then bndO (rc 3 G) (fun G2 => (if (f_X12_isSign G2 60) = 0 then (if (f_X12_isSign G2 61) = 0 then some G2 else j_X12_denied_61 rc G2) else j_X12_denied_61 rc G2)) else bndP (f_X12_opens G) (fun G13 v14 => (if v14 = 0 then some G13 else bndO (rc 2 G13) (fun G17 => bnd (up2 G17 0 22 ((G17 0 22) - 1)) (fun G19 => bndO (f_X12_addStep G19 3 0) (fun G20 => some G20))))))
set_option maxHeartbeats 4000000 in
set_option maxRecDepth 100000 in
theorem c_X12_denied (rc : Nat → Mem → Option Mem) (d : Nat) (ihg : ihM rc d) (l : Launch) (D : va_G) (K : List Nat) (sh : Nat → Ent) (ad : Nat → Nat) (cy : Nat → ClassId) (X : va_W) (B : State → Prop) (hcl : Bcl (AS K ad X) B) (hE : ∀ q ∈ shM, q.1 ∈ K ∧ sh q.1 = q.2) (G : Mem) (L : MemL) (O : MemO)  {Gz : Mem} (hf : f_X12_denied rc G = some Gz) : Met l yX12_denied (wsU yX12_denied cX12_denied 2 none) (rmX (d + 1 + 4) 0 0) (va_Pc [.ref (ad 0)] (PS D K sh ad cy X B G L O)) (QV (AS K ad X) (PH D K sh ad cy X Gz L O)) 0 0 (AS K ad X) := by
  refine s_met (by decide) (Nat.le_of_ble_eq_true rfl) ?_
  intro p e s m args below meth c ls H locs E hK hBs hnm hI hl
  have hl : lv_has ls 2 [(0, .ref (ad 0))] := hl
  have E : Cx p s m args meth c RX12 cX12_denied 2 none := E
  obtain ⟨hx, hb, hr, hml, hown, hu, hlocks⟩ := id E
  have B61 : ∀    (G : Mem) (H : Heap) (locs : List Loc) (ls : Array Slot), lv_has ls 2 [(0, .ref (ad 0))] → IS D K sh ad cy X (AS K ad X) s.heap H locs G L O → j_X12_denied_61 rc G = some Gz → W p l e (rmX (d + 1 + 4) 0 0) s m args below meth c H locs 0 0 (MQ below (QV (AS K ad X) (PH D K sh ad cy X Gz L O)) args s 0 0 (AS K ad X)) (F0 m 61 ls []) := by
    intro  G H locs ls hl hI hf
    rw [j_X12_denied_61] at hf
    refine lv_aload_n hx hb dX12_denied_61 rfl (lv_at hl 0 rfl) ?_
    refine s_get (v := .int (G 0 26)) hx hb hu inU12 hown hK hI (mE hE eM_0) rfl 26 (by decide) u4_214 (fun _ h => h) rfl rfl dX12_denied_62 ?_
    obtain ⟨x1_5, ex1_5, hf⟩ := bnd_i hf
    refine s_nmI ex1_5 ?_
    refine lv_istore_n (lv' := [(1, .int x1_5), (0, .ref (ad 0))]) hx hb dX12_denied_65 rfl hl (by decide) rfl (fun ls hl => ?_)
    refine lv_aload_n hx hb dX12_denied_66 rfl (lv_at hl 1 rfl) ?_
    obtain ⟨G6, h7, hf⟩ := bndO_i hf
    refine s_afV hI (s_runV (rest := []) (As := []) (np := 0) E hK hI (s_B hcl hBs hI) hcl.2 (mE hE eM_0) rfl (c_X12_next l D K sh ad cy X B hcl hE G L O  h7) kyX12_next u5_167 u5_169 up_29 (by omega) rfl hl.1 rfl (Nat.le_of_ble_eq_true rfl) ⟨Nat.zero_le _, Nat.zero_le _⟩ dX12_denied_67) (fun H locs hI => ?_)
    refine lv_aload_n hx hb dX12_denied_70 rfl (lv_at hl 1 rfl) ?_
    obtain ⟨G8, h9, hf⟩ := bndO_i hf
    refine s_afV hI (s_runV (rest := []) (As := []) (np := 0) E hK hI (s_B hcl hBs hI) hcl.2 (mE hE eM_0) rfl ((ihg l D K sh ad cy X B hcl hE G6 L O G8).2.2.2.1 h9) kyX12_sum u5_213 u5_215 up_39 (by omega) rfl hl.1 rfl (Nat.le_of_ble_eq_true rfl) ⟨Nat.zero_le _, Nat.zero_le _⟩ dX12_denied_71) (fun H locs hI => ?_)
    refine lv_aload_n hx hb dX12_denied_74 rfl (lv_at hl 1 rfl) ?_
    refine lv_iload_n hx hb dX12_denied_75 rfl (lv_at hl 0 rfl) ?_
    refine lv_iconst (v := 0) hx hb dX12_denied_76 (by decide) ?_
    obtain ⟨G10, h11, hf⟩ := bndO_i hf
    refine s_afV hI (s_runV (rest := []) (As := [.int x1_5, .int 0]) (np := 2) E hK hI (s_B hcl hBs hI) hcl.2 (mE hE eM_0) rfl (c_X12_addStep l D K sh ad cy X B hcl hE G8 L O x1_5 0 h11) kyX12_addStep u5_209 u5_211 up_38 (by omega) rfl hl.1 rfl (Nat.le_of_ble_eq_true rfl) ⟨Nat.zero_le _, Nat.zero_le _⟩ dX12_denied_77) (fun H locs hI => ?_)
    cases hf
    exact s_vret hx hb hr hI.2.2 hI.1 hlocks dX12_denied_80
  rw [f_X12_denied] at hf
  refine lv_aload_n hx hb dX12_denied_0 rfl (lv_at hl 0 rfl) ?_
  refine lv_bipush (v := 15) hx hb dX12_denied_1 (by decide) ?_
  refine s_afI hI (s_runV (rest := []) (As := [.int 15]) (np := 1) E hK hI (s_B hcl hBs hI) hcl.2 (mE hE eM_0) rfl (c_X12_isKey l D K sh ad cy X B hcl hE G L O 15 rfl) kyX12_isKey u5_185 u5_187 up_32 (by omega) rfl hl.1 rfl (Nat.le_of_ble_eq_true rfl) ⟨Nat.zero_le _, Nat.zero_le _⟩ dX12_denied_3) (fun H locs hI => ?_)
  refine lv_if_eq (tgt := 38) hx hb dX12_denied_6 (by decide) (fun c1 => ?_) (fun c1 => ?_)
  · have hf := ite_t c1 hf
    refine lv_aload_n hx hb dX12_denied_38 rfl (lv_at hl 0 rfl) ?_
    obtain ⟨G2, h3, hf⟩ := bndO_i hf
    refine s_afV hI (s_runV (rest := []) (As := []) (np := 0) E hK hI (s_B hcl hBs hI) hcl.2 (mE hE eM_0) rfl ((ihg l D K sh ad cy X B hcl hE G L O G2).2.2.2.1 h3) kyX12_sum u5_213 u5_215 up_39 (by omega) rfl hl.1 rfl (Nat.le_of_ble_eq_true rfl) ⟨Nat.zero_le _, Nat.zero_le _⟩ dX12_denied_39) (fun H locs hI => ?_)
    refine lv_aload_n hx hb dX12_denied_42 rfl (lv_at hl 0 rfl) ?_
    refine lv_bipush (v := 60) hx hb dX12_denied_43 (by decide) ?_
    refine s_afI hI (s_runV (rest := []) (As := [.int 60]) (np := 1) E hK hI (s_B hcl hBs hI) hcl.2 (mE hE eM_0) rfl (c_X12_isSign l D K sh ad cy X B hcl hE G2 L O 60 rfl) kyX12_isSign u5_225 u5_227 up_42 (by omega) rfl hl.1 rfl (Nat.le_of_ble_eq_true rfl) ⟨Nat.zero_le _, Nat.zero_le _⟩ dX12_denied_45) (fun H locs hI => ?_)
    refine lv_if_ne (tgt := 61) hx hb dX12_denied_48 (by decide) (fun c4 => ?_) (fun c4 => ?_)
    · have hf := ite_f c4 hf
      exact B61    G2 H locs ls (lv_sub hl [0] rfl) hI hf
    · have hf := ite_t c4 hf
      refine lv_aload_n hx hb dX12_denied_51 rfl (lv_at hl 0 rfl) ?_
      refine lv_bipush (v := 61) hx hb dX12_denied_52 (by decide) ?_
      refine s_afI hI (s_runV (rest := []) (As := [.int 61]) (np := 1) E hK hI (s_B hcl hBs hI) hcl.2 (mE hE eM_0) rfl (c_X12_isSign l D K sh ad cy X B hcl hE G2 L O 61 rfl) kyX12_isSign u5_225 u5_227 up_42 (by omega) rfl hl.1 rfl (Nat.le_of_ble_eq_true rfl) ⟨Nat.zero_le _, Nat.zero_le _⟩ dX12_denied_54) (fun H locs hI => ?_)
      refine lv_if_ne (tgt := 61) hx hb dX12_denied_57 (by decide) (fun c12 => ?_) (fun c12 => ?_)
      · have hf := ite_f c12 hf
        exact B61    G2 H locs ls (lv_sub hl [0] rfl) hI hf
      · have hf := ite_t c12 hf
        cases hf
        exact s_vret hx hb hr hI.2.2 hI.1 hlocks dX12_denied_60
  · have hf := ite_f c1 hf
    refine lv_aload_n hx hb dX12_denied_9 rfl (lv_at hl 0 rfl) ?_
    obtain ⟨G13, v14, h15, hf⟩ := bndP_i hf
    refine s_afI hI (s_runV (rest := []) (As := []) (np := 0) E hK hI (s_B hcl hBs hI) hcl.2 (mE hE eM_0) rfl (c_X12_opens l D K sh ad cy X B hcl hE G L O  h15) kyX12_opens u5_205 u5_207 up_37 (by omega) rfl hl.1 rfl (Nat.le_of_ble_eq_true rfl) ⟨Nat.zero_le _, Nat.zero_le _⟩ dX12_denied_10) (fun H locs hI => ?_)
    refine lv_if_ne (tgt := 17) hx hb dX12_denied_13 (by decide) (fun c16 => ?_) (fun c16 => ?_)
    · have hf := ite_f c16 hf
      refine lv_aload_n hx hb dX12_denied_17 rfl (lv_at hl 0 rfl) ?_
      obtain ⟨G17, h18, hf⟩ := bndO_i hf
      refine s_afV hI (s_runV (rest := []) (As := []) (np := 0) E hK hI (s_B hcl hBs hI) hcl.2 (mE hE eM_0) rfl ((ihg l D K sh ad cy X B hcl hE G13 L O G17).2.2.1 h18) kyX12_denied u5_201 u5_203 up_36 (by omega) rfl hl.1 rfl (Nat.le_of_ble_eq_true rfl) ⟨Nat.zero_le _, Nat.zero_le _⟩ dX12_denied_18) (fun H locs hI => ?_)
      refine lv_aload_n hx hb dX12_denied_21 rfl (lv_at hl 0 rfl) ?_
      refine lv_dup hx hb dX12_denied_22 rfl ?_
      refine s_get (v := .int (G17 0 22)) hx hb hu inU12 hown hK hI (mE hE eM_0) rfl 22 (by decide) u4_210 (fun _ h => h) rfl rfl dX12_denied_23 ?_
      refine lv_iconst (v := 1) hx hb dX12_denied_26 (by decide) ?_
      refine lv_isub hx hb dX12_denied_27 ?_
      obtain ⟨G19, eG19, hf⟩ := bnd_i hf
      refine s_put (ty := .int) hx hb hu inU12 tyX12_ok nmX12 hown hK hI (mE hE eM_0) rfl 22 (by decide) u4_210 (fun _ h => h) rfl rfl (tyX12_ok 22 (by decide)) rfl rfl eG19 dX12_denied_28 (fun H locs hI => ?_)
      refine lv_aload_n hx hb dX12_denied_31 rfl (lv_at hl 0 rfl) ?_
      refine lv_iconst (v := 3) hx hb dX12_denied_32 (by decide) ?_
      refine lv_iconst (v := 0) hx hb dX12_denied_33 (by decide) ?_
      obtain ⟨G20, h21, hf⟩ := bndO_i hf
      refine s_afV hI (s_runV (rest := []) (As := [.int 3, .int 0]) (np := 2) E hK hI (s_B hcl hBs hI) hcl.2 (mE hE eM_0) rfl (c_X12_addStep l D K sh ad cy X B hcl hE G19 L O 3 0 h21) kyX12_addStep u5_209 u5_211 up_38 (by omega) rfl hl.1 rfl (Nat.le_of_ble_eq_true rfl) ⟨Nat.zero_le _, Nat.zero_le _⟩ dX12_denied_34) (fun H locs hI => ?_)
      cases hf
      exact s_vret hx hb hr hI.2.2 hI.1 hlocks dX12_denied_37
    · have hf := ite_t c16 hf
      cases hf
      exact s_vret hx hb hr hI.2.2 hI.1 hlocks dX12_denied_16

noncomputable def j_X12_sum_22 (rc : Nat → Mem → Option Mem) (k4 : Mem → Option (Mem)) (G : Mem) : Option (Mem) := bnd (G 0 26) (fun x1_4 => bndO (f_X12_next G) (fun G5 => bndO (rc 4 G5) (fun G7 => bndO (f_X12_addStep G7 x1_4 0) (fun G9 => k4 G9))))
noncomputable def q_X12_sum_4 (rc : Nat → Mem → Option Mem)  (rec : Mem → Option (Mem)) : Mem → Option (Mem) := fun G => (if (f_X12_isSign G 43) = 0 then (if (f_X12_isSign G 45) = 0 then some G else j_X12_sum_22 rc rec G) else j_X12_sum_22 rc rec G)
noncomputable def f_X12_sum (rc : Nat → Mem → Option Mem) (G : Mem)  : Option (Mem) := bndO (rc 4 G) (fun G1 => iter (q_X12_sum_4 rc) fuel G1)
set_option maxHeartbeats 4000000 in
set_option maxRecDepth 100000 in
theorem c_X12_sum (rc : Nat → Mem → Option Mem) (d : Nat) (ihg : ihM rc d) (l : Launch) (D : va_G) (K : List Nat) (sh : Nat → Ent) (ad : Nat → Nat) (cy : Nat → ClassId) (X : va_W) (B : State → Prop) (hcl : Bcl (AS K ad X) B) (hE : ∀ q ∈ shM, q.1 ∈ K ∧ sh q.1 = q.2) (G : Mem) (L : MemL) (O : MemO)  {Gz : Mem} (hf : f_X12_sum rc G = some Gz) : Met l yX12_sum (wsU yX12_sum cX12_sum 2 none) (rmX (d + 1 + 4) 0 0) (va_Pc [.ref (ad 0)] (PS D K sh ad cy X B G L O)) (QV (AS K ad X) (PH D K sh ad cy X Gz L O)) 0 0 (AS K ad X) := by
  refine s_met (by decide) (Nat.le_of_ble_eq_true rfl) ?_
  intro p e s m args below meth c ls H locs E hK hBs hnm hI hl
  have hl : lv_has ls 2 [(0, .ref (ad 0))] := hl
  have E : Cx p s m args meth c RX12 cX12_sum 2 none := E
  obtain ⟨hx, hb, hr, hml, hown, hu, hlocks⟩ := id E
  have B22 : ∀ (k4 : Mem → Option (Mem)) (hk4 : ∀ (G : Mem) (H : Heap) (locs : List Loc) (ls : Array Slot), lv_has ls 2 [(0, .ref (ad 0))] → IS D K sh ad cy X (AS K ad X) s.heap H locs G L O → k4 G = some Gz → W p l e (rmX (d + 1 + 4) 0 0) s m args below meth c H locs 0 0 (MQ below (QV (AS K ad X) (PH D K sh ad cy X Gz L O)) args s 0 0 (AS K ad X)) (F0 m 4 ls []))  (G : Mem) (H : Heap) (locs : List Loc) (ls : Array Slot), lv_has ls 2 [(0, .ref (ad 0))] → IS D K sh ad cy X (AS K ad X) s.heap H locs G L O → j_X12_sum_22 rc k4 G = some Gz → W p l e (rmX (d + 1 + 4) 0 0) s m args below meth c H locs 0 0 (MQ below (QV (AS K ad X) (PH D K sh ad cy X Gz L O)) args s 0 0 (AS K ad X)) (F0 m 22 ls []) := by
    intro k4 hk4 G H locs ls hl hI hf
    rw [j_X12_sum_22] at hf
    refine lv_aload_n hx hb dX12_sum_22 rfl (lv_at hl 0 rfl) ?_
    refine s_get (v := .int (G 0 26)) hx hb hu inU12 hown hK hI (mE hE eM_0) rfl 26 (by decide) u4_214 (fun _ h => h) rfl rfl dX12_sum_23 ?_
    obtain ⟨x1_4, ex1_4, hf⟩ := bnd_i hf
    refine s_nmI ex1_4 ?_
    refine lv_istore_n (lv' := [(1, .int x1_4), (0, .ref (ad 0))]) hx hb dX12_sum_26 rfl hl (by decide) rfl (fun ls hl => ?_)
    refine lv_aload_n hx hb dX12_sum_27 rfl (lv_at hl 1 rfl) ?_
    obtain ⟨G5, h6, hf⟩ := bndO_i hf
    refine s_afV hI (s_runV (rest := []) (As := []) (np := 0) E hK hI (s_B hcl hBs hI) hcl.2 (mE hE eM_0) rfl (c_X12_next l D K sh ad cy X B hcl hE G L O  h6) kyX12_next u5_167 u5_169 up_29 (by omega) rfl hl.1 rfl (Nat.le_of_ble_eq_true rfl) ⟨Nat.zero_le _, Nat.zero_le _⟩ dX12_sum_28) (fun H locs hI => ?_)
    refine lv_aload_n hx hb dX12_sum_31 rfl (lv_at hl 1 rfl) ?_
    obtain ⟨G7, h8, hf⟩ := bndO_i hf
    refine s_afV hI (s_runV (rest := []) (As := []) (np := 0) E hK hI (s_B hcl hBs hI) hcl.2 (mE hE eM_0) rfl ((ihg l D K sh ad cy X B hcl hE G5 L O G7).2.2.2.2.1 h8) kyX12_term u5_217 u5_219 up_40 (by omega) rfl hl.1 rfl (Nat.le_of_ble_eq_true rfl) ⟨Nat.zero_le _, Nat.zero_le _⟩ dX12_sum_32) (fun H locs hI => ?_)
    refine lv_aload_n hx hb dX12_sum_35 rfl (lv_at hl 1 rfl) ?_
    refine lv_iload_n hx hb dX12_sum_36 rfl (lv_at hl 0 rfl) ?_
    refine lv_iconst (v := 0) hx hb dX12_sum_37 (by decide) ?_
    obtain ⟨G9, h10, hf⟩ := bndO_i hf
    refine s_afV hI (s_runV (rest := []) (As := [.int x1_4, .int 0]) (np := 2) E hK hI (s_B hcl hBs hI) hcl.2 (mE hE eM_0) rfl (c_X12_addStep l D K sh ad cy X B hcl hE G7 L O x1_4 0 h10) kyX12_addStep u5_209 u5_211 up_38 (by omega) rfl hl.1 rfl (Nat.le_of_ble_eq_true rfl) ⟨Nat.zero_le _, Nat.zero_le _⟩ dX12_sum_38) (fun H locs hI => ?_)
    refine lv_goto (tgt := 4) hx hb dX12_sum_41 (by decide) ?_
    exact hk4 G9 H locs ls (lv_sub hl [1] rfl) hI hf
  have B4 : ∀   (n : Nat) (G : Mem) (H : Heap) (locs : List Loc) (ls : Array Slot), lv_has ls 2 [(0, .ref (ad 0))] → IS D K sh ad cy X (AS K ad X) s.heap H locs G L O → iter (q_X12_sum_4 rc) n G = some Gz → W p l e (rmX (d + 1 + 4) 0 0) s m args below meth c H locs 0 0 (MQ below (QV (AS K ad X) (PH D K sh ad cy X Gz L O)) args s 0 0 (AS K ad X)) (F0 m 4 ls []) := by
    intro n
    induction n with
    | zero => intro G H locs ls hl hI hf; exact iter_0 hf
    | succ n ih =>
      intro G H locs ls hl hI hf
      have hf : q_X12_sum_4 rc (iter (q_X12_sum_4 rc) n) G = some Gz := hf
      rw [q_X12_sum_4] at hf
      refine lv_aload_n hx hb dX12_sum_4 rfl (lv_at hl 0 rfl) ?_
      refine lv_bipush (v := 43) hx hb dX12_sum_5 (by decide) ?_
      refine s_afI hI (s_runV (rest := []) (As := [.int 43]) (np := 1) E hK hI (s_B hcl hBs hI) hcl.2 (mE hE eM_0) rfl (c_X12_isSign l D K sh ad cy X B hcl hE G L O 43 rfl) kyX12_isSign u5_225 u5_227 up_42 (by omega) rfl hl.1 rfl (Nat.le_of_ble_eq_true rfl) ⟨Nat.zero_le _, Nat.zero_le _⟩ dX12_sum_7) (fun H locs hI => ?_)
      refine lv_if_ne (tgt := 22) hx hb dX12_sum_10 (by decide) (fun c3 => ?_) (fun c3 => ?_)
      · have hf := ite_f c3 hf
        exact B22 _ ih  G H locs ls (lv_sub hl [0] rfl) hI hf
      · have hf := ite_t c3 hf
        refine lv_aload_n hx hb dX12_sum_13 rfl (lv_at hl 0 rfl) ?_
        refine lv_bipush (v := 45) hx hb dX12_sum_14 (by decide) ?_
        refine s_afI hI (s_runV (rest := []) (As := [.int 45]) (np := 1) E hK hI (s_B hcl hBs hI) hcl.2 (mE hE eM_0) rfl (c_X12_isSign l D K sh ad cy X B hcl hE G L O 45 rfl) kyX12_isSign u5_225 u5_227 up_42 (by omega) rfl hl.1 rfl (Nat.le_of_ble_eq_true rfl) ⟨Nat.zero_le _, Nat.zero_le _⟩ dX12_sum_16) (fun H locs hI => ?_)
        refine lv_if_eq (tgt := 44) hx hb dX12_sum_19 (by decide) (fun c11 => ?_) (fun c11 => ?_)
        · have hf := ite_t c11 hf
          cases hf
          exact s_vret hx hb hr hI.2.2 hI.1 hlocks dX12_sum_44
        · have hf := ite_f c11 hf
          exact B22 _ ih  G H locs ls (lv_sub hl [0] rfl) hI hf
  rw [f_X12_sum] at hf
  refine lv_aload_n hx hb dX12_sum_0 rfl (lv_at hl 0 rfl) ?_
  obtain ⟨G1, h2, hf⟩ := bndO_i hf
  refine s_afV hI (s_runV (rest := []) (As := []) (np := 0) E hK hI (s_B hcl hBs hI) hcl.2 (mE hE eM_0) rfl ((ihg l D K sh ad cy X B hcl hE G L O G1).2.2.2.2.1 h2) kyX12_term u5_217 u5_219 up_40 (by omega) rfl hl.1 rfl (Nat.le_of_ble_eq_true rfl) ⟨Nat.zero_le _, Nat.zero_le _⟩ dX12_sum_1) (fun H locs hI => ?_)
  exact B4   fuel G1 H locs ls (lv_sub hl [0] rfl) hI hf

noncomputable def q_X12_term_4 (rc : Nat → Mem → Option Mem)  (rec : Mem → Option (Mem)) : Mem → Option (Mem) := fun G => (if (f_X12_isSign G 42) = 0 then some G else bndO (f_X12_next G) (fun G4 => bndO (rc 5 G4) (fun G6 => bndO (f_X12_addStep G6 42 0) (fun G8 => rec G8))))
noncomputable def f_X12_term (rc : Nat → Mem → Option Mem) (G : Mem)  : Option (Mem) := bndO (rc 5 G) (fun G1 => iter (q_X12_term_4 rc) fuel G1)
set_option maxHeartbeats 4000000 in
set_option maxRecDepth 100000 in
theorem c_X12_term (rc : Nat → Mem → Option Mem) (d : Nat) (ihg : ihM rc d) (l : Launch) (D : va_G) (K : List Nat) (sh : Nat → Ent) (ad : Nat → Nat) (cy : Nat → ClassId) (X : va_W) (B : State → Prop) (hcl : Bcl (AS K ad X) B) (hE : ∀ q ∈ shM, q.1 ∈ K ∧ sh q.1 = q.2) (G : Mem) (L : MemL) (O : MemO)  {Gz : Mem} (hf : f_X12_term rc G = some Gz) : Met l yX12_term (wsU yX12_term cX12_term 1 none) (rmX (d + 1 + 4) 0 0) (va_Pc [.ref (ad 0)] (PS D K sh ad cy X B G L O)) (QV (AS K ad X) (PH D K sh ad cy X Gz L O)) 0 0 (AS K ad X) := by
  refine s_met (by decide) (Nat.le_of_ble_eq_true rfl) ?_
  intro p e s m args below meth c ls H locs E hK hBs hnm hI hl
  have hl : lv_has ls 1 [(0, .ref (ad 0))] := hl
  have E : Cx p s m args meth c RX12 cX12_term 1 none := E
  obtain ⟨hx, hb, hr, hml, hown, hu, hlocks⟩ := id E
  have B4 : ∀   (n : Nat) (G : Mem) (H : Heap) (locs : List Loc) (ls : Array Slot), lv_has ls 1 [(0, .ref (ad 0))] → IS D K sh ad cy X (AS K ad X) s.heap H locs G L O → iter (q_X12_term_4 rc) n G = some Gz → W p l e (rmX (d + 1 + 4) 0 0) s m args below meth c H locs 0 0 (MQ below (QV (AS K ad X) (PH D K sh ad cy X Gz L O)) args s 0 0 (AS K ad X)) (F0 m 4 ls []) := by
    intro n
    induction n with
    | zero => intro G H locs ls hl hI hf; exact iter_0 hf
    | succ n ih =>
      intro G H locs ls hl hI hf
      have hf : q_X12_term_4 rc (iter (q_X12_term_4 rc) n) G = some Gz := hf
      rw [q_X12_term_4] at hf
      refine lv_aload_n hx hb dX12_term_4 rfl (lv_at hl 0 rfl) ?_
      refine lv_bipush (v := 42) hx hb dX12_term_5 (by decide) ?_
      refine s_afI hI (s_runV (rest := []) (As := [.int 42]) (np := 1) E hK hI (s_B hcl hBs hI) hcl.2 (mE hE eM_0) rfl (c_X12_isSign l D K sh ad cy X B hcl hE G L O 42 rfl) kyX12_isSign u5_225 u5_227 up_42 (by omega) rfl hl.1 rfl (Nat.le_of_ble_eq_true rfl) ⟨Nat.zero_le _, Nat.zero_le _⟩ dX12_term_7) (fun H locs hI => ?_)
      refine lv_if_eq (tgt := 31) hx hb dX12_term_10 (by decide) (fun c3 => ?_) (fun c3 => ?_)
      · have hf := ite_t c3 hf
        cases hf
        exact s_vret hx hb hr hI.2.2 hI.1 hlocks dX12_term_31
      · have hf := ite_f c3 hf
        refine lv_aload_n hx hb dX12_term_13 rfl (lv_at hl 0 rfl) ?_
        obtain ⟨G4, h5, hf⟩ := bndO_i hf
        refine s_afV hI (s_runV (rest := []) (As := []) (np := 0) E hK hI (s_B hcl hBs hI) hcl.2 (mE hE eM_0) rfl (c_X12_next l D K sh ad cy X B hcl hE G L O  h5) kyX12_next u5_167 u5_169 up_29 (by omega) rfl hl.1 rfl (Nat.le_of_ble_eq_true rfl) ⟨Nat.zero_le _, Nat.zero_le _⟩ dX12_term_14) (fun H locs hI => ?_)
        refine lv_aload_n hx hb dX12_term_17 rfl (lv_at hl 0 rfl) ?_
        obtain ⟨G6, h7, hf⟩ := bndO_i hf
        refine s_afV hI (s_runV (rest := []) (As := []) (np := 0) E hK hI (s_B hcl hBs hI) hcl.2 (mE hE eM_0) rfl ((ihg l D K sh ad cy X B hcl hE G4 L O G6).2.2.2.2.2 h7) kyX12_one u5_221 u5_223 up_41 (by omega) rfl hl.1 rfl (Nat.le_of_ble_eq_true rfl) ⟨Nat.zero_le _, Nat.zero_le _⟩ dX12_term_18) (fun H locs hI => ?_)
        refine lv_aload_n hx hb dX12_term_21 rfl (lv_at hl 0 rfl) ?_
        refine lv_bipush (v := 42) hx hb dX12_term_22 (by decide) ?_
        refine lv_iconst (v := 0) hx hb dX12_term_24 (by decide) ?_
        obtain ⟨G8, h9, hf⟩ := bndO_i hf
        refine s_afV hI (s_runV (rest := []) (As := [.int 42, .int 0]) (np := 2) E hK hI (s_B hcl hBs hI) hcl.2 (mE hE eM_0) rfl (c_X12_addStep l D K sh ad cy X B hcl hE G6 L O 42 0 h9) kyX12_addStep u5_209 u5_211 up_38 (by omega) rfl hl.1 rfl (Nat.le_of_ble_eq_true rfl) ⟨Nat.zero_le _, Nat.zero_le _⟩ dX12_term_25) (fun H locs hI => ?_)
        refine lv_goto (tgt := 4) hx hb dX12_term_28 (by decide) ?_
        exact ih G8 H locs ls (lv_sub hl [0] rfl) hI hf
  rw [f_X12_term] at hf
  refine lv_aload_n hx hb dX12_term_0 rfl (lv_at hl 0 rfl) ?_
  obtain ⟨G1, h2, hf⟩ := bndO_i hf
  refine s_afV hI (s_runV (rest := []) (As := []) (np := 0) E hK hI (s_B hcl hBs hI) hcl.2 (mE hE eM_0) rfl ((ihg l D K sh ad cy X B hcl hE G L O G1).2.2.2.2.2 h2) kyX12_one u5_221 u5_223 up_41 (by omega) rfl hl.1 rfl (Nat.le_of_ble_eq_true rfl) ⟨Nat.zero_le _, Nat.zero_le _⟩ dX12_term_1) (fun H locs hI => ?_)
  exact B4   fuel G1 H locs ls (lv_sub hl [0] rfl) hI hf

noncomputable def j_X12_one_65 (rc : Nat → Mem → Option Mem)  (G : Mem) : Option (Mem) := (if (f_X12_isSign G 45) = 0 then (if (f_X12_isSign G 40) = 0 then bndO (f_X12_faulty G) (fun G6 => some G6) else bndP (f_X12_opens G) (fun G8 v9 => (if v9 = 0 then some G8 else bndO (rc 0 G8) (fun G12 => (if (f_X12_isSign G12 41) = 0 then bndO (f_X12_faulty G12) (fun G18 => some G18) else bnd (up2 G12 0 22 ((G12 0 22) - 1)) (fun G15 => bndO (f_X12_next G15) (fun G16 => some G16))))))) else bndP (f_X12_opens G) (fun G20 v21 => (if v21 = 0 then some G20 else bndO (rc 5 G20) (fun G24 => bnd (up2 G24 0 22 ((G24 0 22) - 1)) (fun G26 => bndO (f_X12_addStep G26 4 0) (fun G27 => some G27))))))
noncomputable def f_X12_one (rc : Nat → Mem → Option Mem) (G : Mem)  : Option (Mem) := (if (G 0 21) < 0 then (if (G 0 25) = 2 then bndO (f_X12_addStep G 1 (G 0 26)) (fun G34 => bndO (f_X12_next G34) (fun G36 => some G36)) else (if (G 0 25) = 1 then (if 6 ≤ (G 0 26) then j_X12_one_65 rc G else bndO (f_X12_addStep G 2 (G 0 26)) (fun G30 => bndO (f_X12_next G30) (fun G32 => some G32))) else j_X12_one_65 rc G)) else some G)
set_option maxHeartbeats 4000000 in
set_option maxRecDepth 100000 in
theorem c_X12_one (rc : Nat → Mem → Option Mem) (d : Nat) (ihg : ihM rc d) (l : Launch) (D : va_G) (K : List Nat) (sh : Nat → Ent) (ad : Nat → Nat) (cy : Nat → ClassId) (X : va_W) (B : State → Prop) (hcl : Bcl (AS K ad X) B) (hE : ∀ q ∈ shM, q.1 ∈ K ∧ sh q.1 = q.2) (G : Mem) (L : MemL) (O : MemO)  {Gz : Mem} (hf : f_X12_one rc G = some Gz) : Met l yX12_one (wsU yX12_one cX12_one 1 none) (rmX (d + 1 + 4) 0 0) (va_Pc [.ref (ad 0)] (PS D K sh ad cy X B G L O)) (QV (AS K ad X) (PH D K sh ad cy X Gz L O)) 0 0 (AS K ad X) := by
  refine s_met (by decide) (Nat.le_of_ble_eq_true rfl) ?_
  intro p e s m args below meth c ls H locs E hK hBs hnm hI hl
  have hl : lv_has ls 1 [(0, .ref (ad 0))] := hl
  have E : Cx p s m args meth c RX12 cX12_one 1 none := E
  obtain ⟨hx, hb, hr, hml, hown, hu, hlocks⟩ := id E
  have B65 : ∀    (G : Mem) (H : Heap) (locs : List Loc) (ls : Array Slot), lv_has ls 1 [(0, .ref (ad 0))] → IS D K sh ad cy X (AS K ad X) s.heap H locs G L O → j_X12_one_65 rc G = some Gz → W p l e (rmX (d + 1 + 4) 0 0) s m args below meth c H locs 0 0 (MQ below (QV (AS K ad X) (PH D K sh ad cy X Gz L O)) args s 0 0 (AS K ad X)) (F0 m 65 ls []) := by
    intro  G H locs ls hl hI hf
    rw [j_X12_one_65] at hf
    refine lv_aload_n hx hb dX12_one_65 rfl (lv_at hl 0 rfl) ?_
    refine lv_bipush (v := 45) hx hb dX12_one_66 (by decide) ?_
    refine s_afI hI (s_runV (rest := []) (As := [.int 45]) (np := 1) E hK hI (s_B hcl hBs hI) hcl.2 (mE hE eM_0) rfl (c_X12_isSign l D K sh ad cy X B hcl hE G L O 45 rfl) kyX12_isSign u5_225 u5_227 up_42 (by omega) rfl hl.1 rfl (Nat.le_of_ble_eq_true rfl) ⟨Nat.zero_le _, Nat.zero_le _⟩ dX12_one_68) (fun H locs hI => ?_)
    refine lv_if_eq (tgt := 105) hx hb dX12_one_71 (by decide) (fun c4 => ?_) (fun c4 => ?_)
    · have hf := ite_t c4 hf
      refine lv_aload_n hx hb dX12_one_105 rfl (lv_at hl 0 rfl) ?_
      refine lv_bipush (v := 40) hx hb dX12_one_106 (by decide) ?_
      refine s_afI hI (s_runV (rest := []) (As := [.int 40]) (np := 1) E hK hI (s_B hcl hBs hI) hcl.2 (mE hE eM_0) rfl (c_X12_isSign l D K sh ad cy X B hcl hE G L O 40 rfl) kyX12_isSign u5_225 u5_227 up_42 (by omega) rfl hl.1 rfl (Nat.le_of_ble_eq_true rfl) ⟨Nat.zero_le _, Nat.zero_le _⟩ dX12_one_108) (fun H locs hI => ?_)
      refine lv_if_eq (tgt := 157) hx hb dX12_one_111 (by decide) (fun c5 => ?_) (fun c5 => ?_)
      · have hf := ite_t c5 hf
        refine lv_aload_n hx hb dX12_one_157 rfl (lv_at hl 0 rfl) ?_
        obtain ⟨G6, h7, hf⟩ := bndO_i hf
        refine s_afV hI (s_runV (rest := []) (As := []) (np := 0) E hK hI (s_B hcl hBs hI) hcl.2 (mE hE eM_0) rfl (c_X12_faulty l D K sh ad cy X B hcl hE G L O  h7) kyX12_faulty u5_189 u5_191 up_33 (by omega) rfl hl.1 rfl (Nat.le_of_ble_eq_true rfl) ⟨Nat.zero_le _, Nat.zero_le _⟩ dX12_one_158) (fun H locs hI => ?_)
        cases hf
        exact s_vret hx hb hr hI.2.2 hI.1 hlocks dX12_one_161
      · have hf := ite_f c5 hf
        refine lv_aload_n hx hb dX12_one_114 rfl (lv_at hl 0 rfl) ?_
        obtain ⟨G8, v9, h10, hf⟩ := bndP_i hf
        refine s_afI hI (s_runV (rest := []) (As := []) (np := 0) E hK hI (s_B hcl hBs hI) hcl.2 (mE hE eM_0) rfl (c_X12_opens l D K sh ad cy X B hcl hE G L O  h10) kyX12_opens u5_205 u5_207 up_37 (by omega) rfl hl.1 rfl (Nat.le_of_ble_eq_true rfl) ⟨Nat.zero_le _, Nat.zero_le _⟩ dX12_one_115) (fun H locs hI => ?_)
        refine lv_if_ne (tgt := 122) hx hb dX12_one_118 (by decide) (fun c11 => ?_) (fun c11 => ?_)
        · have hf := ite_f c11 hf
          refine lv_aload_n hx hb dX12_one_122 rfl (lv_at hl 0 rfl) ?_
          obtain ⟨G12, h13, hf⟩ := bndO_i hf
          refine s_afV hI (s_runV (rest := []) (As := []) (np := 0) E hK hI (s_B hcl hBs hI) hcl.2 (mE hE eM_0) rfl ((ihg l D K sh ad cy X B hcl hE G8 L O G12).1 h13) kyX12_either u5_193 u5_195 up_34 (by omega) rfl hl.1 rfl (Nat.le_of_ble_eq_true rfl) ⟨Nat.zero_le _, Nat.zero_le _⟩ dX12_one_123) (fun H locs hI => ?_)
          refine lv_aload_n hx hb dX12_one_126 rfl (lv_at hl 0 rfl) ?_
          refine lv_bipush (v := 41) hx hb dX12_one_127 (by decide) ?_
          refine s_afI hI (s_runV (rest := []) (As := [.int 41]) (np := 1) E hK hI (s_B hcl hBs hI) hcl.2 (mE hE eM_0) rfl (c_X12_isSign l D K sh ad cy X B hcl hE G12 L O 41 rfl) kyX12_isSign u5_225 u5_227 up_42 (by omega) rfl hl.1 rfl (Nat.le_of_ble_eq_true rfl) ⟨Nat.zero_le _, Nat.zero_le _⟩ dX12_one_129) (fun H locs hI => ?_)
          refine lv_if_ne (tgt := 140) hx hb dX12_one_132 (by decide) (fun c14 => ?_) (fun c14 => ?_)
          · have hf := ite_f c14 hf
            refine lv_aload_n hx hb dX12_one_140 rfl (lv_at hl 0 rfl) ?_
            refine lv_dup hx hb dX12_one_141 rfl ?_
            refine s_get (v := .int (G12 0 22)) hx hb hu inU12 hown hK hI (mE hE eM_0) rfl 22 (by decide) u4_210 (fun _ h => h) rfl rfl dX12_one_142 ?_
            refine lv_iconst (v := 1) hx hb dX12_one_145 (by decide) ?_
            refine lv_isub hx hb dX12_one_146 ?_
            obtain ⟨G15, eG15, hf⟩ := bnd_i hf
            refine s_put (ty := .int) hx hb hu inU12 tyX12_ok nmX12 hown hK hI (mE hE eM_0) rfl 22 (by decide) u4_210 (fun _ h => h) rfl rfl (tyX12_ok 22 (by decide)) rfl rfl eG15 dX12_one_147 (fun H locs hI => ?_)
            refine lv_aload_n hx hb dX12_one_150 rfl (lv_at hl 0 rfl) ?_
            obtain ⟨G16, h17, hf⟩ := bndO_i hf
            refine s_afV hI (s_runV (rest := []) (As := []) (np := 0) E hK hI (s_B hcl hBs hI) hcl.2 (mE hE eM_0) rfl (c_X12_next l D K sh ad cy X B hcl hE G15 L O  h17) kyX12_next u5_167 u5_169 up_29 (by omega) rfl hl.1 rfl (Nat.le_of_ble_eq_true rfl) ⟨Nat.zero_le _, Nat.zero_le _⟩ dX12_one_151) (fun H locs hI => ?_)
            refine lv_goto (tgt := 161) hx hb dX12_one_154 (by decide) ?_
            cases hf
            exact s_vret hx hb hr hI.2.2 hI.1 hlocks dX12_one_161
          · have hf := ite_t c14 hf
            refine lv_aload_n hx hb dX12_one_135 rfl (lv_at hl 0 rfl) ?_
            obtain ⟨G18, h19, hf⟩ := bndO_i hf
            refine s_afV hI (s_runV (rest := []) (As := []) (np := 0) E hK hI (s_B hcl hBs hI) hcl.2 (mE hE eM_0) rfl (c_X12_faulty l D K sh ad cy X B hcl hE G12 L O  h19) kyX12_faulty u5_189 u5_191 up_33 (by omega) rfl hl.1 rfl (Nat.le_of_ble_eq_true rfl) ⟨Nat.zero_le _, Nat.zero_le _⟩ dX12_one_136) (fun H locs hI => ?_)
            cases hf
            exact s_vret hx hb hr hI.2.2 hI.1 hlocks dX12_one_139
        · have hf := ite_t c11 hf
          cases hf
          exact s_vret hx hb hr hI.2.2 hI.1 hlocks dX12_one_121
    · have hf := ite_f c4 hf
      refine lv_aload_n hx hb dX12_one_74 rfl (lv_at hl 0 rfl) ?_
      obtain ⟨G20, v21, h22, hf⟩ := bndP_i hf
      refine s_afI hI (s_runV (rest := []) (As := []) (np := 0) E hK hI (s_B hcl hBs hI) hcl.2 (mE hE eM_0) rfl (c_X12_opens l D K sh ad cy X B hcl hE G L O  h22) kyX12_opens u5_205 u5_207 up_37 (by omega) rfl hl.1 rfl (Nat.le_of_ble_eq_true rfl) ⟨Nat.zero_le _, Nat.zero_le _⟩ dX12_one_75) (fun H locs hI => ?_)
      refine lv_if_ne (tgt := 82) hx hb dX12_one_78 (by decide) (fun c23 => ?_) (fun c23 => ?_)
      · have hf := ite_f c23 hf
        refine lv_aload_n hx hb dX12_one_82 rfl (lv_at hl 0 rfl) ?_
        obtain ⟨G24, h25, hf⟩ := bndO_i hf
        refine s_afV hI (s_runV (rest := []) (As := []) (np := 0) E hK hI (s_B hcl hBs hI) hcl.2 (mE hE eM_0) rfl ((ihg l D K sh ad cy X B hcl hE G20 L O G24).2.2.2.2.2 h25) kyX12_one u5_221 u5_223 up_41 (by omega) rfl hl.1 rfl (Nat.le_of_ble_eq_true rfl) ⟨Nat.zero_le _, Nat.zero_le _⟩ dX12_one_83) (fun H locs hI => ?_)
        refine lv_aload_n hx hb dX12_one_86 rfl (lv_at hl 0 rfl) ?_
        refine lv_dup hx hb dX12_one_87 rfl ?_
        refine s_get (v := .int (G24 0 22)) hx hb hu inU12 hown hK hI (mE hE eM_0) rfl 22 (by decide) u4_210 (fun _ h => h) rfl rfl dX12_one_88 ?_
        refine lv_iconst (v := 1) hx hb dX12_one_91 (by decide) ?_
        refine lv_isub hx hb dX12_one_92 ?_
        obtain ⟨G26, eG26, hf⟩ := bnd_i hf
        refine s_put (ty := .int) hx hb hu inU12 tyX12_ok nmX12 hown hK hI (mE hE eM_0) rfl 22 (by decide) u4_210 (fun _ h => h) rfl rfl (tyX12_ok 22 (by decide)) rfl rfl eG26 dX12_one_93 (fun H locs hI => ?_)
        refine lv_aload_n hx hb dX12_one_96 rfl (lv_at hl 0 rfl) ?_
        refine lv_iconst (v := 4) hx hb dX12_one_97 (by decide) ?_
        refine lv_iconst (v := 0) hx hb dX12_one_98 (by decide) ?_
        obtain ⟨G27, h28, hf⟩ := bndO_i hf
        refine s_afV hI (s_runV (rest := []) (As := [.int 4, .int 0]) (np := 2) E hK hI (s_B hcl hBs hI) hcl.2 (mE hE eM_0) rfl (c_X12_addStep l D K sh ad cy X B hcl hE G26 L O 4 0 h28) kyX12_addStep u5_209 u5_211 up_38 (by omega) rfl hl.1 rfl (Nat.le_of_ble_eq_true rfl) ⟨Nat.zero_le _, Nat.zero_le _⟩ dX12_one_99) (fun H locs hI => ?_)
        refine lv_goto (tgt := 161) hx hb dX12_one_102 (by decide) ?_
        cases hf
        exact s_vret hx hb hr hI.2.2 hI.1 hlocks dX12_one_161
      · have hf := ite_t c23 hf
        cases hf
        exact s_vret hx hb hr hI.2.2 hI.1 hlocks dX12_one_81
  rw [f_X12_one] at hf
  refine lv_aload_n hx hb dX12_one_0 rfl (lv_at hl 0 rfl) ?_
  refine s_get (v := .int (G 0 21)) hx hb hu inU12 hown hK hI (mE hE eM_0) rfl 21 (by decide) u4_209 (fun _ h => h) rfl rfl dX12_one_1 ?_
  refine lv_if_lt (tgt := 8) hx hb dX12_one_4 (by decide) (fun c1 => ?_) (fun c1 => ?_)
  · have hf := ite_t c1 hf
    refine lv_aload_n hx hb dX12_one_8 rfl (lv_at hl 0 rfl) ?_
    refine s_get (v := .int (G 0 25)) hx hb hu inU12 hown hK hI (mE hE eM_0) rfl 25 (by decide) u4_213 (fun _ h => h) rfl rfl dX12_one_9 ?_
    refine lv_iconst (v := 2) hx hb dX12_one_12 (by decide) ?_
    refine lv_icmp_ne (tgt := 32) hx hb dX12_one_13 (by decide) (fun c2 => ?_) (fun c2 => ?_)
    · have hf := ite_f c2 hf
      refine lv_aload_n hx hb dX12_one_32 rfl (lv_at hl 0 rfl) ?_
      refine s_get (v := .int (G 0 25)) hx hb hu inU12 hown hK hI (mE hE eM_0) rfl 25 (by decide) u4_213 (fun _ h => h) rfl rfl dX12_one_33 ?_
      refine lv_iconst (v := 1) hx hb dX12_one_36 (by decide) ?_
      refine lv_icmp_ne (tgt := 65) hx hb dX12_one_37 (by decide) (fun c3 => ?_) (fun c3 => ?_)
      · have hf := ite_f c3 hf
        exact B65    G H locs ls (lv_sub hl [0] rfl) hI hf
      · have hf := ite_t c3 hf
        refine lv_aload_n hx hb dX12_one_40 rfl (lv_at hl 0 rfl) ?_
        refine s_get (v := .int (G 0 26)) hx hb hu inU12 hown hK hI (mE hE eM_0) rfl 26 (by decide) u4_214 (fun _ h => h) rfl rfl dX12_one_41 ?_
        refine lv_bipush (v := 6) hx hb dX12_one_44 (by decide) ?_
        refine lv_icmp_ge (tgt := 65) hx hb dX12_one_46 (by decide) (fun c29 => ?_) (fun c29 => ?_)
        · have hf := ite_t c29 hf
          exact B65    G H locs ls (lv_sub hl [0] rfl) hI hf
        · have hf := ite_f c29 hf
          refine lv_aload_n hx hb dX12_one_49 rfl (lv_at hl 0 rfl) ?_
          refine lv_iconst (v := 2) hx hb dX12_one_50 (by decide) ?_
          refine lv_aload_n hx hb dX12_one_51 rfl (lv_at hl 0 rfl) ?_
          refine s_get (v := .int (G 0 26)) hx hb hu inU12 hown hK hI (mE hE eM_0) rfl 26 (by decide) u4_214 (fun _ h => h) rfl rfl dX12_one_52 ?_
          obtain ⟨G30, h31, hf⟩ := bndO_i hf
          refine s_afV hI (s_runV (rest := []) (As := [.int 2, .int (G 0 26)]) (np := 2) E hK hI (s_B hcl hBs hI) hcl.2 (mE hE eM_0) rfl (c_X12_addStep l D K sh ad cy X B hcl hE G L O 2 (G 0 26) h31) kyX12_addStep u5_209 u5_211 up_38 (by omega) rfl hl.1 rfl (Nat.le_of_ble_eq_true rfl) ⟨Nat.zero_le _, Nat.zero_le _⟩ dX12_one_55) (fun H locs hI => ?_)
          refine lv_aload_n hx hb dX12_one_58 rfl (lv_at hl 0 rfl) ?_
          obtain ⟨G32, h33, hf⟩ := bndO_i hf
          refine s_afV hI (s_runV (rest := []) (As := []) (np := 0) E hK hI (s_B hcl hBs hI) hcl.2 (mE hE eM_0) rfl (c_X12_next l D K sh ad cy X B hcl hE G30 L O  h33) kyX12_next u5_167 u5_169 up_29 (by omega) rfl hl.1 rfl (Nat.le_of_ble_eq_true rfl) ⟨Nat.zero_le _, Nat.zero_le _⟩ dX12_one_59) (fun H locs hI => ?_)
          refine lv_goto (tgt := 161) hx hb dX12_one_62 (by decide) ?_
          cases hf
          exact s_vret hx hb hr hI.2.2 hI.1 hlocks dX12_one_161
    · have hf := ite_t c2 hf
      refine lv_aload_n hx hb dX12_one_16 rfl (lv_at hl 0 rfl) ?_
      refine lv_iconst (v := 1) hx hb dX12_one_17 (by decide) ?_
      refine lv_aload_n hx hb dX12_one_18 rfl (lv_at hl 0 rfl) ?_
      refine s_get (v := .int (G 0 26)) hx hb hu inU12 hown hK hI (mE hE eM_0) rfl 26 (by decide) u4_214 (fun _ h => h) rfl rfl dX12_one_19 ?_
      obtain ⟨G34, h35, hf⟩ := bndO_i hf
      refine s_afV hI (s_runV (rest := []) (As := [.int 1, .int (G 0 26)]) (np := 2) E hK hI (s_B hcl hBs hI) hcl.2 (mE hE eM_0) rfl (c_X12_addStep l D K sh ad cy X B hcl hE G L O 1 (G 0 26) h35) kyX12_addStep u5_209 u5_211 up_38 (by omega) rfl hl.1 rfl (Nat.le_of_ble_eq_true rfl) ⟨Nat.zero_le _, Nat.zero_le _⟩ dX12_one_22) (fun H locs hI => ?_)
      refine lv_aload_n hx hb dX12_one_25 rfl (lv_at hl 0 rfl) ?_
      obtain ⟨G36, h37, hf⟩ := bndO_i hf
      refine s_afV hI (s_runV (rest := []) (As := []) (np := 0) E hK hI (s_B hcl hBs hI) hcl.2 (mE hE eM_0) rfl (c_X12_next l D K sh ad cy X B hcl hE G34 L O  h37) kyX12_next u5_167 u5_169 up_29 (by omega) rfl hl.1 rfl (Nat.le_of_ble_eq_true rfl) ⟨Nat.zero_le _, Nat.zero_le _⟩ dX12_one_26) (fun H locs hI => ?_)
      refine lv_goto (tgt := 161) hx hb dX12_one_29 (by decide) ?_
      cases hf
      exact s_vret hx hb hr hI.2.2 hI.1 hlocks dX12_one_161
  · have hf := ite_f c1 hf
    cases hf
    exact s_vret hx hb hr hI.2.2 hI.1 hlocks dX12_one_7

noncomputable def gM : Nat → Nat → Mem → Option Mem
  | 0 => fun _ _ => none
  | d + 1 => fun j => match j with
    | 0 => f_X12_either (gM d)
    | 1 => f_X12_all (gM d)
    | 2 => f_X12_denied (gM d)
    | 3 => f_X12_sum (gM d)
    | 4 => f_X12_term (gM d)
    | 5 => f_X12_one (gM d)
    | _ => fun _ => none
theorem ihM_all : ∀ d, ihM (gM d) d
  | 0 => fun l D K sh ad cy X B hcl hE G L O Gz => ⟨(fun h => by cases h), (fun h => by cases h), (fun h => by cases h), (fun h => by cases h), (fun h => by cases h), (fun h => by cases h)⟩
  | d + 1 => fun l D K sh ad cy X B hcl hE G L O Gz => ⟨(fun h => c_X12_either (gM d) d (ihM_all d) l D K sh ad cy X B hcl hE G L O h), (fun h => c_X12_all (gM d) d (ihM_all d) l D K sh ad cy X B hcl hE G L O h), (fun h => c_X12_denied (gM d) d (ihM_all d) l D K sh ad cy X B hcl hE G L O h), (fun h => c_X12_sum (gM d) d (ihM_all d) l D K sh ad cy X B hcl hE G L O h), (fun h => c_X12_term (gM d) d (ihM_all d) l D K sh ad cy X B hcl hE G L O h), (fun h => c_X12_one (gM d) d (ihM_all d) l D K sh ad cy X B hcl hE G L O h)⟩
