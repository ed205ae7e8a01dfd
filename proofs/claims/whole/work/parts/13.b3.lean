theorem AZ_in {D : va_G} {K : List Nat} {sh : Nat → Ent} {ad : Nat → Nat} {cy : Nat → ClassId} {X : va_W} {A : Nat → Prop} {H0 H : Heap} {locs : List Loc} {G : Mem} {L : MemL} {O : MemO} (hI : IS D K sh ad cy X A H0 H locs G L O) (hA : ∀ q, H0.size ≤ q → A q) : ∀ q, AZ K ad X H.size q → A q := fun q h => h.elim (AS_D hI.2.1 q) (fun z => hA q (Nat.le_trans hI.2.2.1 z))
noncomputable def f_J7_copyOf_59c91 (en ln : Nat) (G : Mem) (e0 : Nat) (n0 : Nat) (x1 : Int32) : Option (Mem) := (if x1 = (nI n0) then none else chk (lnB x1 ln) (bnd (zr 0 G en) (fun G3 => chk (cpB 0 0 (if x1 < (nI n0) then x1 else (nI n0)) n0 ln) (bnd (cpG G3 e0 en 0 0 (if x1 < (nI n0) then x1 else (nI n0))) (fun G6 => some G6)))))
theorem kyJ7_copyOf_59c91 : Ky yJ7_copyOf_59c91 cJ7_copyOf_59c91 3 (some (FieldType.array FieldType.int)) 2 := ⟨u2_140, u1_3, by decide, by decide, by decide, by decide +kernel⟩
set_option maxHeartbeats 4000000 in
set_option maxRecDepth 100000 in
theorem c_J7_copyOf_59c91 (l : Launch) (D : va_G) (K : List Nat) (sh : Nat → Ent) (ad : Nat → Nat) (cy : Nat → ClassId) (X : va_W) (B : State → Prop) (sz : Nat) (hclA : Bcl (AZ K ad X sz) B) (hCl : Cl K sh) (en ln : Nat) (hsh_en : sh en = (1, ln, [])) (hn_en : en ∉ K)  (e0 n0 : Nat) (he0 : e0 ∈ K ∧ sh e0 = (1, n0, [])) (G : Mem) (L : MemL) (O : MemO) (x1 : Int32) {Gz : Mem} (hOR : ORf K O) (hf : f_J7_copyOf_59c91 en ln G e0 n0 x1 = some Gz) : Met l yJ7_copyOf_59c91 (wsU yJ7_copyOf_59c91 cJ7_copyOf_59c91 3 (some (FieldType.array FieldType.int))) (rmX 1 1 160) (va_Pc [.ref (ad e0), .int x1] (PZ sz D K sh ad cy X B G L O)) (QZ D K ad cy X (AZ K ad X sz) (K ++ [en]) (fun z => z = sh) Gz L O (fun a => some (.ref (a en)))) 1 160 (AZ K ad X sz) := by
  refine s_metZ (by decide) (Nat.le_of_ble_eq_true rfl) ?_
  intro p e s m args below meth c ls H locs A0 eA0 hA E hK hBs hnm hI hl
  rw [← eA0] at hclA
  rw [← eA0]
  have hsub : ∀ b ∈ K, b ∈ K := fun b hb => hb
  have had : ∀ b ∈ K, ad b = ad b := fun b hb => rfl
  have hl : lv_has ls 3 [(0, .ref (ad e0)), (1, .int x1)] := hl
  have E : Cx p s m args meth c RJ7 cJ7_copyOf_59c91 3 (some (FieldType.array FieldType.int)) := E
  obtain ⟨hx, hb, hr, hml, hown, hu, hlocks⟩ := id E
  rw [f_J7_copyOf_59c91] at hf
  refine lv_iload_n hx hb dJ7_copyOf_59c91_0 rfl (lv_at hl 1 rfl) ?_
  refine lv_aload_n hx hb dJ7_copyOf_59c91_1 rfl (lv_at hl 0 rfl) ?_
  refine s_alen (t := 1) (t0 := 0) (by decide) rfl hx hb hK hI he0 dJ7_copyOf_59c91_2 ?_
  refine lv_icmp_ne (tgt := 14) hx hb dJ7_copyOf_59c91_3 (by decide) (fun c1 => ?_) (fun c1 => ?_)
  · have hf := ite_f c1 hf
    refine lv_iload_n hx hb dJ7_copyOf_59c91_14 rfl (lv_at hl 1 rfl) ?_
    obtain ⟨h2, hf⟩ := chk_i hf
    obtain ⟨G3, eG3, hf⟩ := bnd_i hf
    refine s_newI E u1_80 hK hI hA en (fr_of hCl hOR hn_en) hsh_en (of_decide_eq_true h2).2.1 (of_decide_eq_true h2).1 (by have := (of_decide_eq_true h2).2.2; omega) ⟨by decide, by have := (of_decide_eq_true h2).2.2; show _ ≤ 160; omega⟩ dJ7_copyOf_59c91_15 (fun q H hI => ?_)
    rw [← eG3] at hI
    refine W.widen (k := 1) (n := 160) (by decide) (by have := (of_decide_eq_true h2).2.2; omega) ?_
    obtain ⟨K4, eK4⟩ : ∃ z, z = K ++ [en] := ⟨_, rfl⟩
    obtain ⟨ad4, ea4⟩ : ∃ z, z = adU ad en q := ⟨_, rfl⟩
    rw [← eK4, ← ea4] at hI
    have hin4 : ∀ b ∈ K, b ∈ K4 := fun b hb => by rw [eK4]; exact List.mem_append_left _ hb
    have hk4 : en ∈ K4 := by rw [eK4]; exact List.mem_append_right _ (List.mem_singleton.mpr rfl)
    have hq4 : q = ad4 en := by rw [ea4]; exact adU_k.symm
    have had4 : ∀ b ∈ K, ad4 b = ad b := fun b hb => by rw [ea4]; exact adU_in hb hn_en
    have hr4_0 := had4 _ (he0).1
    have had : ∀ b ∈ K, ad4 b = ad b := fun b hb => (had4 b (hsub b hb)).trans (had b hb)
    have hsub : ∀ b ∈ K, b ∈ K4 := fun b hb => hin4 b (hsub b hb)
    have hcl : Bcl (AS K4 ad4 X) B := hclA.mono (AS_D hI.2.1)
    have he0 : e0 ∈ K4 ∧ sh e0 = (1, n0, []) := ⟨hin4 _ he0.1, he0.2⟩
    have hm_en := hk4
    have hCl : Cl K4 sh := by rw [eK4]; exact hCl.push (by rw [hsh_en]; simp)
    have hOR : ORf K4 O := hOR.mono hin4
    rw [← hr4_0] at hl
    rw [hq4]
    refine lv_astore_n (lv' := [(2, .ref (ad4 en)), (0, .ref (ad4 e0)), (1, .int x1)]) hx hb dJ7_copyOf_59c91_17 rfl hl (by decide) rfl (fun ls hl => ?_)
    refine lv_aload_n hx hb dJ7_copyOf_59c91_18 rfl (lv_at hl 1 rfl) ?_
    refine lv_iconst (v := 0) hx hb dJ7_copyOf_59c91_19 (by decide) ?_
    refine lv_aload_n hx hb dJ7_copyOf_59c91_20 rfl (lv_at hl 0 rfl) ?_
    refine lv_iconst (v := 0) hx hb dJ7_copyOf_59c91_21 (by decide) ?_
    refine lv_aload_n hx hb dJ7_copyOf_59c91_22 rfl (lv_at hl 1 rfl) ?_
    refine s_alen (t := 1) (t0 := 0) (by decide) rfl hx hb hK hI he0 dJ7_copyOf_59c91_23 ?_
    refine lv_iload_n hx hb dJ7_copyOf_59c91_24 rfl (lv_at hl 2 rfl) ?_
    refine s_mmin (rest := [.int 0, .ref (ad4 en), .int 0, .ref (ad4 e0)]) E hl.1 u2_148 u2_32 u1_11 u2_33 (by decide) (Nat.le_of_ble_eq_true rfl) ⟨by decide, by decide⟩ dJ7_copyOf_59c91_25 ?_
    obtain ⟨h5, hf⟩ := chk_i hf
    obtain ⟨G6, eG6, hf⟩ := bnd_i hf
    refine s_copyi (rest := []) E hK hI hl.1 u2_149 u2_151 u2_150 u1_14 he0 (⟨hm_en, hsh_en⟩ : en ∈ K4 ∧ _) h5 eG6 (by decide) (Nat.le_of_ble_eq_true rfl) dJ7_copyOf_59c91_28 (fun H locs hI => ?_)
    refine lv_aload_n hx hb dJ7_copyOf_59c91_31 rfl (lv_at hl 0 rfl) ?_
    cases hf
    subst eK4
    refine W.widen (k := 1) (n := 160) (by decide) (by decide) ?_
    exact s_aretZ E (Or.inr ⟨_, rfl⟩) (Or.inr ⟨_, rfl⟩) had rfl rfl hI dJ7_copyOf_59c91_32
  · have hf := ite_t c1 hf
    cases hf
noncomputable def f_X5_compiled (tx ln : Nat) (G : Mem) (O : MemO)  : Option (Mem × MemO × Nat) := bnd (up2 G 114 3 0) (fun G1 => bnd (up2 G1 114 7 0) (fun G2 => bndO (f_X5_advance G2) (fun G3 => bnd (zr 0 G3 (tx + 2)) (fun G5 => bndP (f_X5_pass G5 0) (fun G7 v8 => (if v8 = 0 then some (G7, O, 0) else bndP (gR 60 0 G7 0) (fun G11 v12 => (if v12 = 0 then some (G11, O, 0) else bndP (f_X5_pass G11 59) (fun G15 v16 => (if v16 = 0 then some (G15, O, 0) else bnd (up2 G15 (tx + 2) (0 : Int32).toNatClampNeg (G15 114 7)) (fun G19 => bndP (f_X5_pass G19 1) (fun G20 v21 => (if v21 = 0 then some (G20, O, 0) else bndP (gR 60 0 G20 0) (fun G24 v25 => (if v25 = 0 then some (G24, O, 0) else bndP (f_X5_pass G24 59) (fun G28 v29 => (if v29 = 0 then some (G28, O, 0) else bnd (up2 G28 (tx + 2) (1 : Int32).toNatClampNeg (G28 114 7)) (fun G32 => bndP (f_X5_pass G32 2) (fun G33 v34 => (if v34 = 0 then some (G33, O, 0) else bndP (gR 60 0 G33 0) (fun G37 v38 => (if v38 = 0 then some (G37, O, 0) else bndP (f_X5_pass G37 59) (fun G41 v42 => (if v42 = 0 then some (G41, O, 0) else bnd (up2 G41 (tx + 2) (2 : Int32).toNatClampNeg (G41 114 7)) (fun G45 => (if (G45 114 5) = 9 then bnd (zr 0 G45 tx) (fun G47 => bnd (zr none O tx) (fun O48 => bndO (f_J7_copyOf_59c91 (tx + 1) ln G47 116 160 (G47 114 7)) (fun G50 => bndP (f_X9_init tx G50 O48) (fun G53 O55 => chk (decide (O55 tx 0 = some (tx + 1) ∧ O55 tx 1 = some (tx + 2) ∧ O55 tx 2 = some (tx + 3))) (some (G53, O55, 1)))))) else some (G45, O, 0)))))))))))))))))))))))))))
theorem kyX5_compiled : Ky yX5_compiled cX5_compiled 3 (some (FieldType.object "NobodyBreathes$Text")) 0 := ⟨u2_16, u1_4, by decide, by decide, by decide, by decide +kernel⟩
set_option maxHeartbeats 4000000 in
set_option maxRecDepth 100000 in
theorem c_X5_compiled (l : Launch) (D : va_G) (K : List Nat) (sh : Nat → Ent) (ad : Nat → Nat) (cy : Nat → ClassId) (X : va_W) (B : State → Prop) (sz : Nat) (hclA : Bcl (AZ K ad X sz) B) (hCl : Cl K sh)  (S : Nat → Nat) (hE : HC S K sh) (adK adV : Nat → Nat) (hSBA : ∀ U : State, B U → SB adK adV (AZ K ad X sz) U) (G : Mem) (L : MemL) (O : MemO)  {Gz : Mem} {Oz : MemO} {nz : Nat} (tx ln : Nat) (hsh_tx : sh tx = (0, 9, [1, 1, 1])) (hsh_tx1 : sh (tx + 1) = (1, ln, [])) (hsh_tx2 : sh (tx + 2) = (1, 3, [])) (hsh_tx3 : sh (tx + 3) = (1, 32, [])) (hn_tx : tx ∉ K) (hn_tx1 : tx + 1 ∉ K) (hn_tx2 : tx + 2 ∉ K) (hn_tx3 : tx + 3 ∉ K) (hOR : ORf K O) (hf : f_X5_compiled tx ln G O = some (Gz, Oz, nz)) : Met l yX5_compiled (wsU yX5_compiled cX5_compiled 3 (some (FieldType.object "NobodyBreathes$Text"))) (rmX 69 4 198) (va_Pc [.ref (ad 114)] (PZ sz D K sh ad cy X B G L O)) (QZ D K ad cy X (AZ K ad X sz) (if nz = 1 then ((((K ++ [tx + 2]) ++ [tx]) ++ [tx + 1]) ++ [tx + 3]) else K) (fun z => z = if nz = 1 then shT sh tx else sh) Gz L Oz (fun a => if nz = 1 then some (.ref (a tx)) else some .null)) 4 198 (AZ K ad X sz) := by
  refine s_metZ (by decide) (Nat.le_of_ble_eq_true rfl) ?_
  intro p e s m args below meth c ls H locs A0 eA0 hA E hK hBs hnm hI hl
  rw [← eA0] at hclA
  rw [← eA0]
  have hsub : ∀ b ∈ K, b ∈ K := fun b hb => hb
  rw [← eA0] at hSBA
  have hcl : Bcl (AS K ad X) B := hclA.mono (AS_D hI.2.1)
  have hSB : ∀ U : State, B U → SB adK adV (AS K ad X) U := fun U h => SB_nar (hSBA U h) (AS_D hI.2.1)
  have had : ∀ b ∈ K, ad b = ad b := fun b hb => rfl
  have hl : lv_has ls 3 [(0, .ref (ad 114))] := hl
  have E : Cx p s m args meth c RX5 cX5_compiled 3 (some (FieldType.object "NobodyBreathes$Text")) := E
  obtain ⟨hx, hb, hr, hml, hown, hu, hlocks⟩ := id E
  rw [f_X5_compiled] at hf
  refine lv_aload_n hx hb dX5_compiled_0 rfl (lv_at hl 0 rfl) ?_
  refine lv_iconst (v := 0) hx hb dX5_compiled_1 (by decide) ?_
  obtain ⟨G1, eG1, hf⟩ := bnd_i hf
  refine s_put (ty := .int) hx hb hu inU5 tyX5_ok nmX5 hown hK hI (mE hE.1 eC_114) rfl 3 (by decide) u1_93 (fun _ h => h) rfl rfl (tyX5_ok 3 (by decide)) rfl rfl eG1 dX5_compiled_2 (fun H locs hI => ?_)
  refine lv_aload_n hx hb dX5_compiled_5 rfl (lv_at hl 0 rfl) ?_
  refine lv_iconst (v := 0) hx hb dX5_compiled_6 (by decide) ?_
  obtain ⟨G2, eG2, hf⟩ := bnd_i hf
  refine s_put (ty := .int) hx hb hu inU5 tyX5_ok nmX5 hown hK hI (mE hE.1 eC_114) rfl 7 (by decide) u1_98 (fun _ h => h) rfl rfl (tyX5_ok 7 (by decide)) rfl rfl eG2 dX5_compiled_7 (fun H locs hI => ?_)
  refine lv_aload_n hx hb dX5_compiled_10 rfl (lv_at hl 0 rfl) ?_
  obtain ⟨G3, h4, hf⟩ := bndO_i hf
  refine s_afV hI (s_runV (rest := []) (As := []) (np := 0) E hK hI (s_B hclA hBs hI) hcl.2 (mE hE.1 eC_114) rfl (c_X5_advance l D K sh ad cy X B hcl S hE adK adV hSB G2 L O  h4) kyX5_advance u2_17 u2_19 up_0 (by decide) rfl hl.1 rfl (Nat.le_of_ble_eq_true rfl) ⟨by decide, by decide⟩ dX5_compiled_11) (fun H locs hI => ?_)
  refine lv_iconst (v := 3) hx hb dX5_compiled_14 (by decide) ?_
  obtain ⟨G5, eG5, hf⟩ := bnd_i hf
  refine s_newI E u1_80 hK hI hA (tx + 2) (fr_of hCl hOR hn_tx2) hsh_tx2 (by decide) (by decide) (by decide) ⟨by decide, by decide⟩ dX5_compiled_15 (fun q H hI => ?_)
  rw [← eG5] at hI
  obtain ⟨K6, eK6⟩ : ∃ z, z = K ++ [(tx + 2)] := ⟨_, rfl⟩
  obtain ⟨ad6, ea6⟩ : ∃ z, z = adU ad (tx + 2) q := ⟨_, rfl⟩
  rw [← eK6, ← ea6] at hI
  have hin6 : ∀ b ∈ K, b ∈ K6 := fun b hb => by rw [eK6]; exact List.mem_append_left _ hb
  have hk6 : (tx + 2) ∈ K6 := by rw [eK6]; exact List.mem_append_right _ (List.mem_singleton.mpr rfl)
  have hq6 : q = ad6 (tx + 2) := by rw [ea6]; exact adU_k.symm
  have had6 : ∀ b ∈ K, ad6 b = ad b := fun b hb => by rw [ea6]; exact adU_in hb hn_tx2
  have hr6_0 := had6 _ ((mE hE.1 eC_114)).1
  have had : ∀ b ∈ K, ad6 b = ad b := fun b hb => (had6 b (hsub b hb)).trans (had b hb)
  have hsub : ∀ b ∈ K, b ∈ K6 := fun b hb => hin6 b (hsub b hb)
  have hcl : Bcl (AS K6 ad6 X) B := hclA.mono (AS_D hI.2.1)
  have hE : HC S K6 sh := hE.mono hin6
  have hSB : ∀ U : State, B U → SB adK adV (AS K6 ad6 X) U := fun U h => SB_nar (hSBA U h) (AS_D hI.2.1)
  have hn_tx : tx ∉ K6 := by rw [eK6]; exact nin_push hn_tx (by omega)
  have hn_tx1 : (tx + 1) ∉ K6 := by rw [eK6]; exact nin_push hn_tx1 (by omega)
  have hn_tx3 : (tx + 3) ∉ K6 := by rw [eK6]; exact nin_push hn_tx3 (by omega)
  have hm_tx2 := hk6
  have hCl : Cl K6 sh := by rw [eK6]; exact hCl.push (by rw [hsh_tx2]; simp)
  have hOR : ORf K6 O := hOR.mono hin6
  rw [← hr6_0] at hl
  rw [hq6]
  refine lv_astore_n (lv' := [(1, .ref (ad6 (tx + 2))), (0, .ref (ad6 114))]) hx hb dX5_compiled_17 rfl hl (by decide) rfl (fun ls hl => ?_)
  refine lv_iconst (v := 0) hx hb dX5_compiled_18 (by decide) ?_
  refine lv_istore_n (lv' := [(2, .int 0), (1, .ref (ad6 (tx + 2))), (0, .ref (ad6 114))]) hx hb dX5_compiled_19 rfl hl (by decide) rfl (fun ls hl => ?_)
  refine lv_iload_n hx hb dX5_compiled_20 rfl (lv_at hl 0 rfl) ?_
  refine lv_iconst (v := 3) hx hb dX5_compiled_21 (by decide) ?_
  refine lv_icmp_ge (tgt := 65) hx hb dX5_compiled_22 (by decide) (fun c61 => absurd c61 (by decide)) (fun c61 => ?_)
  refine lv_aload_n hx hb dX5_compiled_25 rfl (lv_at hl 2 rfl) ?_
  refine lv_iload_n hx hb dX5_compiled_26 rfl (lv_at hl 0 rfl) ?_
  obtain ⟨G7, v8, h9, hf⟩ := bndP_i hf
  refine s_afI hI (s_runV (rest := []) (As := [.int 0]) (np := 1) E hK hI (s_B hclA hBs hI) hcl.2 (mE hE.1 eC_114) rfl (c_X5_pass l D K6 sh ad6 cy X B hcl S hE adK adV hSB G5 L O 0 h9) kyX5_pass u2_100 u2_102 up_5 (by decide) rfl hl.1 rfl (Nat.le_of_ble_eq_true rfl) ⟨by decide, by decide⟩ dX5_compiled_27) (fun H locs hI => ?_)
  refine lv_if_eq (tgt := 50) hx hb dX5_compiled_30 (by decide) (fun c10 => ?_) (fun c10 => ?_)
  · have hf := ite_t c10 hf
    refine lv_null hx hb dX5_compiled_50 ?_
    cases hf
    subst eK6
    refine W.widen (k := 4) (n := 198) (by decide) (by decide) ?_
    exact s_aretZ E (Or.inl ⟨_, rfl⟩) (Or.inl rfl) had rfl rfl (IS_drop hI) dX5_compiled_51
  · have hf := ite_f c10 hf
    refine lv_aload_n hx hb dX5_compiled_33 rfl (lv_at hl 2 rfl) ?_
    refine lv_iconst (v := 0) hx hb dX5_compiled_34 (by decide) ?_
    obtain ⟨G11, v12, h13, hf⟩ := bndP_i hf
    refine s_afI hI (s_runV (rest := []) (As := [.int 0]) (np := 1) E hK hI (s_B hclA hBs hI) hcl.2 (mE hE.1 eC_114) rfl ((ihR_all 60 l D K6 sh ad6 cy X B hcl S hE adK adV hSB G7 L O 0 G11 v12).1 h13) kyX5_either u2_104 u2_106 up_6 (by decide) rfl hl.1 rfl (Nat.le_of_ble_eq_true rfl) ⟨by decide, by decide⟩ dX5_compiled_35) (fun H locs hI => ?_)
    refine lv_if_eq (tgt := 50) hx hb dX5_compiled_38 (by decide) (fun c14 => ?_) (fun c14 => ?_)
    · have hf := ite_t c14 hf
      refine lv_null hx hb dX5_compiled_50 ?_
      cases hf
      subst eK6
      refine W.widen (k := 4) (n := 198) (by decide) (by decide) ?_
      exact s_aretZ E (Or.inl ⟨_, rfl⟩) (Or.inl rfl) had rfl rfl (IS_drop hI) dX5_compiled_51
    · have hf := ite_f c14 hf
      refine lv_aload_n hx hb dX5_compiled_41 rfl (lv_at hl 2 rfl) ?_
      refine lv_bipush (v := 59) hx hb dX5_compiled_42 (by decide) ?_
      obtain ⟨G15, v16, h17, hf⟩ := bndP_i hf
      refine s_afI hI (s_runV (rest := []) (As := [.int 59]) (np := 1) E hK hI (s_B hclA hBs hI) hcl.2 (mE hE.1 eC_114) rfl (c_X5_pass l D K6 sh ad6 cy X B hcl S hE adK adV hSB G11 L O 59 h17) kyX5_pass u2_100 u2_102 up_5 (by decide) rfl hl.1 rfl (Nat.le_of_ble_eq_true rfl) ⟨by decide, by decide⟩ dX5_compiled_44) (fun H locs hI => ?_)
      refine lv_if_ne (tgt := 52) hx hb dX5_compiled_47 (by decide) (fun c18 => ?_) (fun c18 => ?_)
      · have hf := ite_f c18 hf
        refine lv_aload_n hx hb dX5_compiled_52 rfl (lv_at hl 1 rfl) ?_
        refine lv_iload_n hx hb dX5_compiled_53 rfl (lv_at hl 0 rfl) ?_
        refine lv_aload_n hx hb dX5_compiled_54 rfl (lv_at hl 2 rfl) ?_
        refine s_get (v := .int (G15 114 7)) hx hb hu inU5 hown hK hI (mE hE.1 eC_114) rfl 7 (by decide) u1_98 (fun _ h => h) rfl rfl dX5_compiled_55 ?_
        obtain ⟨G19, eG19, hf⟩ := bnd_i hf
        refine s_ist hx hb hK hI (⟨hm_tx2, hsh_tx2⟩ : (tx + 2) ∈ K6 ∧ _) (inB_i (by decide)) eG19 dX5_compiled_58 (fun H locs hI => ?_)
        refine lv_iinc (v := 1) (lv' := [(2, .int 1), (1, .ref (ad6 (tx + 2))), (0, .ref (ad6 114))]) hx hb dX5_compiled_59 hl (k := 0) rfl (by decide) (by decide) rfl (fun ls hl => ?_)
        refine lv_goto (tgt := 20) hx hb dX5_compiled_62 (by decide) ?_
        refine lv_iload_n hx hb dX5_compiled_20 rfl (lv_at hl 0 rfl) ?_
        refine lv_iconst (v := 3) hx hb dX5_compiled_21 (by decide) ?_
        refine lv_icmp_ge (tgt := 65) hx hb dX5_compiled_22 (by decide) (fun c60 => absurd c60 (by decide)) (fun c60 => ?_)
        refine lv_aload_n hx hb dX5_compiled_25 rfl (lv_at hl 2 rfl) ?_
        refine lv_iload_n hx hb dX5_compiled_26 rfl (lv_at hl 0 rfl) ?_
        obtain ⟨G20, v21, h22, hf⟩ := bndP_i hf
        refine s_afI hI (s_runV (rest := []) (As := [.int 1]) (np := 1) E hK hI (s_B hclA hBs hI) hcl.2 (mE hE.1 eC_114) rfl (c_X5_pass l D K6 sh ad6 cy X B hcl S hE adK adV hSB G19 L O 1 h22) kyX5_pass u2_100 u2_102 up_5 (by decide) rfl hl.1 rfl (Nat.le_of_ble_eq_true rfl) ⟨by decide, by decide⟩ dX5_compiled_27) (fun H locs hI => ?_)
        refine lv_if_eq (tgt := 50) hx hb dX5_compiled_30 (by decide) (fun c23 => ?_) (fun c23 => ?_)
        · have hf := ite_t c23 hf
          refine lv_null hx hb dX5_compiled_50 ?_
          cases hf
          subst eK6
          refine W.widen (k := 4) (n := 198) (by decide) (by decide) ?_
          exact s_aretZ E (Or.inl ⟨_, rfl⟩) (Or.inl rfl) had rfl rfl (IS_drop hI) dX5_compiled_51
        · have hf := ite_f c23 hf
          refine lv_aload_n hx hb dX5_compiled_33 rfl (lv_at hl 2 rfl) ?_
          refine lv_iconst (v := 0) hx hb dX5_compiled_34 (by decide) ?_
          obtain ⟨G24, v25, h26, hf⟩ := bndP_i hf
          refine s_afI hI (s_runV (rest := []) (As := [.int 0]) (np := 1) E hK hI (s_B hclA hBs hI) hcl.2 (mE hE.1 eC_114) rfl ((ihR_all 60 l D K6 sh ad6 cy X B hcl S hE adK adV hSB G20 L O 0 G24 v25).1 h26) kyX5_either u2_104 u2_106 up_6 (by decide) rfl hl.1 rfl (Nat.le_of_ble_eq_true rfl) ⟨by decide, by decide⟩ dX5_compiled_35) (fun H locs hI => ?_)
          refine lv_if_eq (tgt := 50) hx hb dX5_compiled_38 (by decide) (fun c27 => ?_) (fun c27 => ?_)
          · have hf := ite_t c27 hf
            refine lv_null hx hb dX5_compiled_50 ?_
            cases hf
            subst eK6
            refine W.widen (k := 4) (n := 198) (by decide) (by decide) ?_
            exact s_aretZ E (Or.inl ⟨_, rfl⟩) (Or.inl rfl) had rfl rfl (IS_drop hI) dX5_compiled_51
          · have hf := ite_f c27 hf
            refine lv_aload_n hx hb dX5_compiled_41 rfl (lv_at hl 2 rfl) ?_
            refine lv_bipush (v := 59) hx hb dX5_compiled_42 (by decide) ?_
            obtain ⟨G28, v29, h30, hf⟩ := bndP_i hf
            refine s_afI hI (s_runV (rest := []) (As := [.int 59]) (np := 1) E hK hI (s_B hclA hBs hI) hcl.2 (mE hE.1 eC_114) rfl (c_X5_pass l D K6 sh ad6 cy X B hcl S hE adK adV hSB G24 L O 59 h30) kyX5_pass u2_100 u2_102 up_5 (by decide) rfl hl.1 rfl (Nat.le_of_ble_eq_true rfl) ⟨by decide, by decide⟩ dX5_compiled_44) (fun H locs hI => ?_)
            refine lv_if_ne (tgt := 52) hx hb dX5_compiled_47 (by decide) (fun c31 => ?_) (fun c31 => ?_)
            · have hf := ite_f c31 hf
              refine lv_aload_n hx hb dX5_compiled_52 rfl (lv_at hl 1 rfl) ?_
              refine lv_iload_n hx hb dX5_compiled_53 rfl (lv_at hl 0 rfl) ?_
              refine lv_aload_n hx hb dX5_compiled_54 rfl (lv_at hl 2 rfl) ?_
              refine s_get (v := .int (G28 114 7)) hx hb hu inU5 hown hK hI (mE hE.1 eC_114) rfl 7 (by decide) u1_98 (fun _ h => h) rfl rfl dX5_compiled_55 ?_
              obtain ⟨G32, eG32, hf⟩ := bnd_i hf
              refine s_ist hx hb hK hI (⟨hm_tx2, hsh_tx2⟩ : (tx + 2) ∈ K6 ∧ _) (inB_i (by decide)) eG32 dX5_compiled_58 (fun H locs hI => ?_)
              refine lv_iinc (v := 2) (lv' := [(2, .int 2), (1, .ref (ad6 (tx + 2))), (0, .ref (ad6 114))]) hx hb dX5_compiled_59 hl (k := 0) rfl (by decide) (by decide) rfl (fun ls hl => ?_)
              refine lv_goto (tgt := 20) hx hb dX5_compiled_62 (by decide) ?_
              refine lv_iload_n hx hb dX5_compiled_20 rfl (lv_at hl 0 rfl) ?_
              refine lv_iconst (v := 3) hx hb dX5_compiled_21 (by decide) ?_
              refine lv_icmp_ge (tgt := 65) hx hb dX5_compiled_22 (by decide) (fun c59 => absurd c59 (by decide)) (fun c59 => ?_)
              refine lv_aload_n hx hb dX5_compiled_25 rfl (lv_at hl 2 rfl) ?_
              refine lv_iload_n hx hb dX5_compiled_26 rfl (lv_at hl 0 rfl) ?_
              obtain ⟨G33, v34, h35, hf⟩ := bndP_i hf
              refine s_afI hI (s_runV (rest := []) (As := [.int 2]) (np := 1) E hK hI (s_B hclA hBs hI) hcl.2 (mE hE.1 eC_114) rfl (c_X5_pass l D K6 sh ad6 cy X B hcl S hE adK adV hSB G32 L O 2 h35) kyX5_pass u2_100 u2_102 up_5 (by decide) rfl hl.1 rfl (Nat.le_of_ble_eq_true rfl) ⟨by decide, by decide⟩ dX5_compiled_27) (fun H locs hI => ?_)
              refine lv_if_eq (tgt := 50) hx hb dX5_compiled_30 (by decide) (fun c36 => ?_) (fun c36 => ?_)
              · have hf := ite_t c36 hf
                refine lv_null hx hb dX5_compiled_50 ?_
                cases hf
                subst eK6
                refine W.widen (k := 4) (n := 198) (by decide) (by decide) ?_
                exact s_aretZ E (Or.inl ⟨_, rfl⟩) (Or.inl rfl) had rfl rfl (IS_drop hI) dX5_compiled_51
              · have hf := ite_f c36 hf
                refine lv_aload_n hx hb dX5_compiled_33 rfl (lv_at hl 2 rfl) ?_
                refine lv_iconst (v := 0) hx hb dX5_compiled_34 (by decide) ?_
                obtain ⟨G37, v38, h39, hf⟩ := bndP_i hf
                refine s_afI hI (s_runV (rest := []) (As := [.int 0]) (np := 1) E hK hI (s_B hclA hBs hI) hcl.2 (mE hE.1 eC_114) rfl ((ihR_all 60 l D K6 sh ad6 cy X B hcl S hE adK adV hSB G33 L O 0 G37 v38).1 h39) kyX5_either u2_104 u2_106 up_6 (by decide) rfl hl.1 rfl (Nat.le_of_ble_eq_true rfl) ⟨by decide, by decide⟩ dX5_compiled_35) (fun H locs hI => ?_)
                refine lv_if_eq (tgt := 50) hx hb dX5_compiled_38 (by decide) (fun c40 => ?_) (fun c40 => ?_)
                · have hf := ite_t c40 hf
                  refine lv_null hx hb dX5_compiled_50 ?_
                  cases hf
                  subst eK6
                  refine W.widen (k := 4) (n := 198) (by decide) (by decide) ?_
                  exact s_aretZ E (Or.inl ⟨_, rfl⟩) (Or.inl rfl) had rfl rfl (IS_drop hI) dX5_compiled_51
                · have hf := ite_f c40 hf
                  refine lv_aload_n hx hb dX5_compiled_41 rfl (lv_at hl 2 rfl) ?_
                  refine lv_bipush (v := 59) hx hb dX5_compiled_42 (by decide) ?_
                  obtain ⟨G41, v42, h43, hf⟩ := bndP_i hf
                  refine s_afI hI (s_runV (rest := []) (As := [.int 59]) (np := 1) E hK hI (s_B hclA hBs hI) hcl.2 (mE hE.1 eC_114) rfl (c_X5_pass l D K6 sh ad6 cy X B hcl S hE adK adV hSB G37 L O 59 h43) kyX5_pass u2_100 u2_102 up_5 (by decide) rfl hl.1 rfl (Nat.le_of_ble_eq_true rfl) ⟨by decide, by decide⟩ dX5_compiled_44) (fun H locs hI => ?_)
                  refine lv_if_ne (tgt := 52) hx hb dX5_compiled_47 (by decide) (fun c44 => ?_) (fun c44 => ?_)
                  · have hf := ite_f c44 hf
                    refine lv_aload_n hx hb dX5_compiled_52 rfl (lv_at hl 1 rfl) ?_
                    refine lv_iload_n hx hb dX5_compiled_53 rfl (lv_at hl 0 rfl) ?_
                    refine lv_aload_n hx hb dX5_compiled_54 rfl (lv_at hl 2 rfl) ?_
                    refine s_get (v := .int (G41 114 7)) hx hb hu inU5 hown hK hI (mE hE.1 eC_114) rfl 7 (by decide) u1_98 (fun _ h => h) rfl rfl dX5_compiled_55 ?_
                    obtain ⟨G45, eG45, hf⟩ := bnd_i hf
                    refine s_ist hx hb hK hI (⟨hm_tx2, hsh_tx2⟩ : (tx + 2) ∈ K6 ∧ _) (inB_i (by decide)) eG45 dX5_compiled_58 (fun H locs hI => ?_)
                    refine lv_iinc (v := 3) (lv' := [(2, .int 3), (1, .ref (ad6 (tx + 2))), (0, .ref (ad6 114))]) hx hb dX5_compiled_59 hl (k := 0) rfl (by decide) (by decide) rfl (fun ls hl => ?_)
                    refine lv_goto (tgt := 20) hx hb dX5_compiled_62 (by decide) ?_
                    refine lv_iload_n hx hb dX5_compiled_20 rfl (lv_at hl 0 rfl) ?_
                    refine lv_iconst (v := 3) hx hb dX5_compiled_21 (by decide) ?_
                    refine lv_icmp_ge (tgt := 65) hx hb dX5_compiled_22 (by decide) (fun c58 => ?_) (fun c58 => absurd (by decide) c58)
                    refine lv_aload_n hx hb dX5_compiled_65 rfl (lv_at hl 2 rfl) ?_
                    refine s_get (v := .int (G45 114 5)) hx hb hu inU5 hown hK hI (mE hE.1 eC_114) rfl 5 (by decide) u1_96 (fun _ h => h) rfl rfl dX5_compiled_66 ?_
                    refine lv_bipush (v := 9) hx hb dX5_compiled_69 (by decide) ?_
                    refine lv_icmp_ne (tgt := 96) hx hb dX5_compiled_71 (by decide) (fun c46 => ?_) (fun c46 => ?_)
                    · have hf := ite_f c46 hf
                      refine lv_null hx hb dX5_compiled_96 ?_
                      cases hf
                      subst eK6
                      refine W.widen (k := 4) (n := 198) (by decide) (by decide) ?_
                      exact s_aretZ E (Or.inl ⟨_, rfl⟩) (Or.inl rfl) had rfl rfl (IS_drop hI) dX5_compiled_97
                    · have hf := ite_t c46 hf
                      obtain ⟨G47, eG47, hf⟩ := bnd_i hf
                      obtain ⟨O48, eO48, hf⟩ := bnd_i hf
                      refine s_newObj E inU9 tyX9_ok u2_136 u2_137 u1_13 hK hI hA rfl tx (fr_of hCl hOR hn_tx) hsh_tx rfl (by decide +kernel) ⟨by decide, by decide⟩ dX5_compiled_74 (fun q H hI => ?_)
                      rw [← eG47, ← eO48] at hI
                      have hOR := hOR.zr tx
                      rw [← eO48] at hOR
                      obtain ⟨K49, eK49⟩ : ∃ z, z = K6 ++ [tx] := ⟨_, rfl⟩
                      obtain ⟨ad49, ea49⟩ : ∃ z, z = adU ad6 tx q := ⟨_, rfl⟩
                      rw [← eK49, ← ea49] at hI
                      have hin49 : ∀ b ∈ K6, b ∈ K49 := fun b hb => by rw [eK49]; exact List.mem_append_left _ hb
                      have hk49 : tx ∈ K49 := by rw [eK49]; exact List.mem_append_right _ (List.mem_singleton.mpr rfl)
                      have hq49 : q = ad49 tx := by rw [ea49]; exact adU_k.symm
                      have had49 : ∀ b ∈ K6, ad49 b = ad6 b := fun b hb => by rw [ea49]; exact adU_in hb hn_tx
                      have hr49_0 := had49 _ ((⟨hm_tx2, hsh_tx2⟩ : (tx + 2) ∈ K6 ∧ _)).1
                      have hr49_1 := had49 _ ((mE hE.1 eC_114)).1
                      have had : ∀ b ∈ K, ad49 b = ad b := fun b hb => (had49 b (hsub b hb)).trans (had b hb)
                      have hsub : ∀ b ∈ K, b ∈ K49 := fun b hb => hin49 b (hsub b hb)
                      have hcl : Bcl (AS K49 ad49 X) B := hclA.mono (AS_D hI.2.1)
                      have hE : HC S K49 sh := hE.mono hin49
                      have hSB : ∀ U : State, B U → SB adK adV (AS K49 ad49 X) U := fun U h => SB_nar (hSBA U h) (AS_D hI.2.1)
                      have hm_tx2 := hin49 _ hm_tx2
                      have hn_tx1 : (tx + 1) ∉ K49 := by rw [eK49]; exact nin_push hn_tx1 (by omega)
                      have hn_tx3 : (tx + 3) ∉ K49 := by rw [eK49]; exact nin_push hn_tx3 (by omega)
                      have hm_tx := hk49
                      have hCl : Cl K49 sh := by rw [eK49]; exact hCl.push (by rw [hsh_tx]; simp)
                      have hOR : ORf K49 O48 := hOR.mono hin49
                      rw [← hr49_0, ← hr49_1] at hl
                      rw [hq49]
                      refine lv_dup hx hb dX5_compiled_77 rfl ?_
                      refine lv_aload_n hx hb dX5_compiled_78 rfl (lv_at hl 2 rfl) ?_
                      refine s_get (v := .ref (ad49 116)) hx hb hu inU5 hown hK hI (mE hE.1 eC_114) rfl 1 (by decide) u1_90 (fun _ h => h) rfl rfl dX5_compiled_79 ?_
                      refine lv_aload_n hx hb dX5_compiled_82 rfl (lv_at hl 2 rfl) ?_
                      refine s_get (v := .int (G47 114 7)) hx hb hu inU5 hown hK hI (mE hE.1 eC_114) rfl 7 (by decide) u1_98 (fun _ h => h) rfl rfl dX5_compiled_83 ?_
                      obtain ⟨G50, h51, hf⟩ := bndO_i hf
                      refine s_afZ hA hI (s_runSz (rest := [.ref (ad49 tx), .ref (ad49 tx)]) (np := 2) E hK hI (s_B hclA hBs hI) hclA.2 (c_J7_copyOf_59c91 l D K49 sh ad49 cy X B H.size (hclA.mono (AZ_in hI hA)) hCl (tx + 1) ln hsh_tx1 hn_tx1 116 160 (mE hE.1 eC_116) G47 L O48 (G47 114 7) hOR h51) kyJ7_copyOf_59c91 u2_138 u2_139 (by decide) rfl hl.1 rfl (Nat.le_of_ble_eq_true rfl) ⟨by decide, by decide⟩ dX5_compiled_86) (fun ad52 sh1 H locs had52 hHy hI => ?_)
                      have hHy := hHy.symm
                      subst hHy
                      change W p l e _ s m _ below meth c _ _ _ _ _ (F0 m 89 ls [.ref (ad52 (tx + 1)), .ref (ad49 tx), .ref (ad49 tx)])
                      obtain ⟨K52, eK52⟩ : ∃ z, z = (K49 ++ [tx + 1]) := ⟨_, rfl⟩
                      rw [← eK52] at hI
                      have hin52 : ∀ b ∈ K49, b ∈ K52 := fun b hb => by rw [eK52]; exact (List.mem_append_left _ hb)
                      have hk52_0 : (tx + 1) ∈ K52 := by rw [eK52]; exact (List.mem_append_right _ (List.mem_singleton.mpr rfl))
                      have hr52_0 := had52 _ ((⟨hm_tx, hsh_tx⟩ : tx ∈ K49 ∧ _)).1
                      have hr52_1 := had52 _ ((⟨hm_tx2, hsh_tx2⟩ : (tx + 2) ∈ K49 ∧ _)).1
                      have hr52_2 := had52 _ ((mE hE.1 eC_114)).1
                      have had : ∀ b ∈ K, ad52 b = ad b := fun b hb => (had52 b (hsub b hb)).trans (had b hb)
                      have hsub : ∀ b ∈ K, b ∈ K52 := fun b hb => hin52 b (hsub b hb)
                      have hcl : Bcl (AS K52 ad52 X) B := hclA.mono (AS_D hI.2.1)
                      have hE : HC S K52 sh := hE.mono hin52
                      have hSB : ∀ U : State, B U → SB adK adV (AS K52 ad52 X) U := fun U h => SB_nar (hSBA U h) (AS_D hI.2.1)
                      have hm_tx2 := hin52 _ hm_tx2
                      have hm_tx := hin52 _ hm_tx
                      have hn_tx3 : (tx + 3) ∉ K52 := by rw [eK52]; exact (nin_push hn_tx3 (by omega))
                      have hm_tx1 := hk52_0
                      have hCl : Cl K52 sh := by rw [eK52]; exact (Cl.push hCl (by rw [hsh_tx1]; simp))
                      have hOR : ORf K52 O48 := hOR.mono hin52
                      rw [← hr52_1, ← hr52_2] at hl
                      rw [← hr52_0]
                      refine lv_aload_n hx hb dX5_compiled_89 rfl (lv_at hl 1 rfl) ?_
                      obtain ⟨G53, O55, h54, hf⟩ := bndP_i hf
                      refine s_afZ hA hI (s_runI (rest := [.ref (ad52 tx)]) (As := [.ref (ad52 (tx + 1)), .ref (ad52 (tx + 2))]) (np := 2) E hK hI (s_B hclA hBs hI) hclA.2 (c_X9_init l D K52 sh ad52 cy X B H.size (hclA.mono (AZ_in hI hA)) hCl tx hm_tx hsh_tx hsh_tx3 hn_tx3 hm_tx1 hm_tx2 G50 L O48 hOR h54) kyX9_init u2_152 u2_153 rfl (by decide) rfl hl.1 rfl (Nat.le_of_ble_eq_true rfl) ⟨by decide, by decide⟩ dX5_compiled_90) (fun ad56 sh1 H locs had56 hHy hI => ?_)
                      have hHy := hHy.symm
                      subst hHy
                      change W p l e _ s m _ below meth c _ _ _ _ _ (F0 m 93 ls [.ref (ad52 tx)])
                      obtain ⟨K56, eK56⟩ : ∃ z, z = (K52 ++ [tx + 3]) := ⟨_, rfl⟩
                      rw [← eK56] at hI
                      have hin56 : ∀ b ∈ K52, b ∈ K56 := fun b hb => by rw [eK56]; exact (List.mem_append_left _ hb)
                      have hk56_0 : (tx + 3) ∈ K56 := by rw [eK56]; exact (List.mem_append_right _ (List.mem_singleton.mpr rfl))
                      have hr56_0 := had56 _ ((⟨hm_tx, hsh_tx⟩ : tx ∈ K52 ∧ _)).1
                      have hr56_1 := had56 _ ((⟨hm_tx2, hsh_tx2⟩ : (tx + 2) ∈ K52 ∧ _)).1
                      have hr56_2 := had56 _ ((mE hE.1 eC_114)).1
                      have had : ∀ b ∈ K, ad56 b = ad b := fun b hb => (had56 b (hsub b hb)).trans (had b hb)
                      have hsub : ∀ b ∈ K, b ∈ K56 := fun b hb => hin56 b (hsub b hb)
                      have hcl : Bcl (AS K56 ad56 X) B := hclA.mono (AS_D hI.2.1)
                      have hE : HC S K56 sh := hE.mono hin56
                      have hSB : ∀ U : State, B U → SB adK adV (AS K56 ad56 X) U := fun U h => SB_nar (hSBA U h) (AS_D hI.2.1)
                      have hm_tx2 := hin56 _ hm_tx2
                      have hm_tx := hin56 _ hm_tx
                      have hm_tx1 := hin56 _ hm_tx1
                      have hm_tx3 := hk56_0
                      have hCl : Cl K56 sh := by rw [eK56]; exact (Cl.push hCl (by rw [hsh_tx3]; simp))
                      rw [← hr56_1, ← hr56_2] at hl
                      rw [← hr56_0]
                      refine lv_goto (tgt := 97) hx hb dX5_compiled_93 (by decide) ?_
                      obtain ⟨h57, hf⟩ := chk_i hf
                      cases hf
                      subst eK56
                      subst eK52
                      subst eK49
                      subst eK6
                      refine W.widen (k := 4) (n := 198) (by decide) (by decide) ?_
                      exact s_aretZ E (Or.inl ⟨_, rfl⟩) (Or.inr ⟨_, rfl⟩) had rfl rfl (IS_sh (fun k _ => conv_tx hsh_tx (of_decide_eq_true h57).1 (of_decide_eq_true h57).2.1 (of_decide_eq_true h57).2.2 k) hI) dX5_compiled_97
                  · have hf := ite_t c44 hf
                    refine lv_null hx hb dX5_compiled_50 ?_
                    cases hf
                    subst eK6
                    refine W.widen (k := 4) (n := 198) (by decide) (by decide) ?_
                    exact s_aretZ E (Or.inl ⟨_, rfl⟩) (Or.inl rfl) had rfl rfl (IS_drop hI) dX5_compiled_51
            · have hf := ite_t c31 hf
              refine lv_null hx hb dX5_compiled_50 ?_
              cases hf
              subst eK6
              refine W.widen (k := 4) (n := 198) (by decide) (by decide) ?_
              exact s_aretZ E (Or.inl ⟨_, rfl⟩) (Or.inl rfl) had rfl rfl (IS_drop hI) dX5_compiled_51
      · have hf := ite_t c18 hf
        refine lv_null hx hb dX5_compiled_50 ?_
        cases hf
        subst eK6
        refine W.widen (k := 4) (n := 198) (by decide) (by decide) ?_
        exact s_aretZ E (Or.inl ⟨_, rfl⟩) (Or.inl rfl) had rfl rfl (IS_drop hI) dX5_compiled_51
