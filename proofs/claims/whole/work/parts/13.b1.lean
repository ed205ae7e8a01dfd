set_option maxRecDepth 100000 in
noncomputable def f_X4_init (e0 : Nat) (G : Mem) (O : MemO)  : Option (Mem × MemO) := bnd (zr 0 G (e0 + 1)) (fun G1 => bnd (up2 O e0 0 (some (e0 + 1))) (fun O3 => bnd (zr 0 G1 (e0 + 2)) (fun G4 => bnd (up2 O3 e0 1 (some (e0 + 2))) (fun O6 => bnd (zr 0 G4 (e0 + 3)) (fun G7 => bnd (up2 O6 e0 2 (some (e0 + 3))) (fun O9 => bnd (zr 0 G7 (e0 + 4)) (fun G10 => bnd (up2 O9 e0 3 (some (e0 + 4))) (fun O12 => bnd (zr 0 G10 (e0 + 5)) (fun G13 => bnd (up2 O12 e0 4 (some (e0 + 5))) (fun O15 => bnd (up2 G13 e0 5 24) (fun G16 => bnd (up2 G16 e0 6 0) (fun G17 => bnd (up2 G17 e0 7 0) (fun G18 => chk (decide ((O15 e0 0) = some (e0 + 1))) (bndO (f_J7_fill_53178 G18 (e0 + 1) 48 3) (fun G20 => some (G20, O15))))))))))))))))
theorem kyX4_init : Ky yX4_init cX4_init 1 none 0 := ⟨u1_35, u1_2, by decide, by decide, by decide, by decide +kernel⟩
set_option maxHeartbeats 4000000 in
set_option maxRecDepth 100000 in
theorem c_X4_init (l : Launch) (D : va_G) (K : List Nat) (sh : Nat → Ent) (ad : Nat → Nat) (cy : Nat → ClassId) (X : va_W) (B : State → Prop) (sz : Nat) (hclA : Bcl (AZ K ad X sz) B) (hCl : Cl K sh) (e0 : Nat) (hm_e0 : e0 ∈ K) (hsh_e0 : sh e0 = (0, 4, [1, 1, 1, 1, 1, 0, 0, 0])) (hsh_e01 : sh (e0 + 1) = (1, 48, [])) (hn_e01 : (e0 + 1) ∉ K) (hsh_e02 : sh (e0 + 2) = (1, 48, [])) (hn_e02 : (e0 + 2) ∉ K) (hsh_e03 : sh (e0 + 3) = (1, 48, [])) (hn_e03 : (e0 + 3) ∉ K) (hsh_e04 : sh (e0 + 4) = (1, 4, [])) (hn_e04 : (e0 + 4) ∉ K) (hsh_e05 : sh (e0 + 5) = (1, 10, [])) (hn_e05 : (e0 + 5) ∉ K)  (G : Mem) (L : MemL) (O : MemO)  {Gz : Mem} {Oz : MemO} (hOR : ORf K O) (hf : f_X4_init e0 G O = some (Gz, Oz)) : Met l yX4_init (wsU yX4_init cX4_init 1 none) (rmX 2 5 158) (va_Pc [.ref (ad e0)] (PZ sz D K sh ad cy X B G L O)) (QZ D K ad cy X (AZ K ad X sz) (((((K ++ [e0 + 1]) ++ [e0 + 2]) ++ [e0 + 3]) ++ [e0 + 4]) ++ [e0 + 5]) (fun z => z = sh) Gz L Oz (fun _ => none)) 5 158 (AZ K ad X sz) := by
  refine s_metZ (by decide) (Nat.le_of_ble_eq_true rfl) ?_
  intro p e s m args below meth c ls H locs A0 eA0 hA E hK hBs hnm hI hl
  rw [← eA0] at hclA
  rw [← eA0]
  have hsub : ∀ b ∈ K, b ∈ K := fun b hb => hb
  have had : ∀ b ∈ K, ad b = ad b := fun b hb => rfl
  have hl : lv_has ls 1 [(0, .ref (ad e0))] := hl
  have E : Cx p s m args meth c RX4 cX4_init 1 none := E
  obtain ⟨hx, hb, hr, hml, hown, hu, hlocks⟩ := id E
  rw [f_X4_init] at hf
  refine lv_aload_n hx hb dX4_init_0 rfl (lv_at hl 0 rfl) ?_
  refine s_objI (rest := []) E hl.1 u1_36 u1_29 u1_30 (by decide) (Nat.le_of_ble_eq_true rfl) dX4_init_1 ?_
  refine lv_aload_n hx hb dX4_init_4 rfl (lv_at hl 0 rfl) ?_
  refine lv_bipush (v := 48) hx hb dX4_init_5 (by decide) ?_
  obtain ⟨G1, eG1, hf⟩ := bnd_i hf
  refine s_newI E u1_80 hK hI hA (e0 + 1) (fr_of hCl hOR hn_e01) hsh_e01 (by decide) (by decide) (by decide) ⟨by decide, by decide⟩ dX4_init_7 (fun q H hI => ?_)
  rw [← eG1] at hI
  obtain ⟨K2, eK2⟩ : ∃ z, z = K ++ [(e0 + 1)] := ⟨_, rfl⟩
  obtain ⟨ad2, ea2⟩ : ∃ z, z = adU ad (e0 + 1) q := ⟨_, rfl⟩
  rw [← eK2, ← ea2] at hI
  have hin2 : ∀ b ∈ K, b ∈ K2 := fun b hb => by rw [eK2]; exact List.mem_append_left _ hb
  have hk2 : (e0 + 1) ∈ K2 := by rw [eK2]; exact List.mem_append_right _ (List.mem_singleton.mpr rfl)
  have hq2 : q = ad2 (e0 + 1) := by rw [ea2]; exact adU_k.symm
  have had2 : ∀ b ∈ K, ad2 b = ad b := fun b hb => by rw [ea2]; exact adU_in hb hn_e01
  have hr2_0 := had2 _ ((⟨hm_e0, hsh_e0⟩ : e0 ∈ K ∧ _)).1
  have had : ∀ b ∈ K, ad2 b = ad b := fun b hb => (had2 b (hsub b hb)).trans (had b hb)
  have hsub : ∀ b ∈ K, b ∈ K2 := fun b hb => hin2 b (hsub b hb)
  have hcl : Bcl (AS K2 ad2 X) B := hclA.mono (AS_D hI.2.1)
  have hm_e0 := hin2 _ hm_e0
  have hn_e02 : (e0 + 2) ∉ K2 := by rw [eK2]; exact nin_push hn_e02 (by omega)
  have hn_e03 : (e0 + 3) ∉ K2 := by rw [eK2]; exact nin_push hn_e03 (by omega)
  have hn_e04 : (e0 + 4) ∉ K2 := by rw [eK2]; exact nin_push hn_e04 (by omega)
  have hn_e05 : (e0 + 5) ∉ K2 := by rw [eK2]; exact nin_push hn_e05 (by omega)
  have hm_e01 := hk2
  have hCl : Cl K2 sh := by rw [eK2]; exact hCl.push (by rw [hsh_e01]; simp)
  have hOR : ORf K2 O := hOR.mono hin2
  rw [← hr2_0] at hl
  rw [hq2, ← hr2_0]
  obtain ⟨O3, eO3, hf⟩ := bnd_i hf
  have hOR := hOR.up (k := e0) (j := 0) ((⟨hm_e01, hsh_e01⟩ : (e0 + 1) ∈ K2 ∧ _)).1
  rw [← eO3] at hOR
  refine s_putOF (ty := tyX4 0) E hnm inU4 tyX4_ok nmX4 hK hI (⟨hm_e0, hsh_e0⟩ : e0 ∈ K2 ∧ _) rfl 0 (by decide) u1_40 (fun _ h => h) rfl rfl rfl (tyX4_ok 0 (by decide)) rfl rfl eO3 dX4_init_9 (fun H locs hI => ?_)
  refine lv_aload_n hx hb dX4_init_12 rfl (lv_at hl 0 rfl) ?_
  refine lv_bipush (v := 48) hx hb dX4_init_13 (by decide) ?_
  obtain ⟨G4, eG4, hf⟩ := bnd_i hf
  refine s_newI E u1_80 hK hI hA (e0 + 2) (fr_of hCl hOR hn_e02) hsh_e02 (by decide) (by decide) (by decide) ⟨by decide, by decide⟩ dX4_init_15 (fun q H hI => ?_)
  rw [← eG4] at hI
  obtain ⟨K5, eK5⟩ : ∃ z, z = K2 ++ [(e0 + 2)] := ⟨_, rfl⟩
  obtain ⟨ad5, ea5⟩ : ∃ z, z = adU ad2 (e0 + 2) q := ⟨_, rfl⟩
  rw [← eK5, ← ea5] at hI
  have hin5 : ∀ b ∈ K2, b ∈ K5 := fun b hb => by rw [eK5]; exact List.mem_append_left _ hb
  have hk5 : (e0 + 2) ∈ K5 := by rw [eK5]; exact List.mem_append_right _ (List.mem_singleton.mpr rfl)
  have hq5 : q = ad5 (e0 + 2) := by rw [ea5]; exact adU_k.symm
  have had5 : ∀ b ∈ K2, ad5 b = ad2 b := fun b hb => by rw [ea5]; exact adU_in hb hn_e02
  have hr5_0 := had5 _ ((⟨hm_e0, hsh_e0⟩ : e0 ∈ K2 ∧ _)).1
  have had : ∀ b ∈ K, ad5 b = ad b := fun b hb => (had5 b (hsub b hb)).trans (had b hb)
  have hsub : ∀ b ∈ K, b ∈ K5 := fun b hb => hin5 b (hsub b hb)
  have hcl : Bcl (AS K5 ad5 X) B := hclA.mono (AS_D hI.2.1)
  have hm_e0 := hin5 _ hm_e0
  have hm_e01 := hin5 _ hm_e01
  have hn_e03 : (e0 + 3) ∉ K5 := by rw [eK5]; exact nin_push hn_e03 (by omega)
  have hn_e04 : (e0 + 4) ∉ K5 := by rw [eK5]; exact nin_push hn_e04 (by omega)
  have hn_e05 : (e0 + 5) ∉ K5 := by rw [eK5]; exact nin_push hn_e05 (by omega)
  have hm_e02 := hk5
  have hCl : Cl K5 sh := by rw [eK5]; exact hCl.push (by rw [hsh_e02]; simp)
  have hOR : ORf K5 O3 := hOR.mono hin5
  rw [← hr5_0] at hl
  rw [hq5, ← hr5_0]
  obtain ⟨O6, eO6, hf⟩ := bnd_i hf
  have hOR := hOR.up (k := e0) (j := 1) ((⟨hm_e02, hsh_e02⟩ : (e0 + 2) ∈ K5 ∧ _)).1
  rw [← eO6] at hOR
  refine s_putOF (ty := tyX4 1) E hnm inU4 tyX4_ok nmX4 hK hI (⟨hm_e0, hsh_e0⟩ : e0 ∈ K5 ∧ _) rfl 1 (by decide) u1_43 (fun _ h => h) rfl rfl rfl (tyX4_ok 1 (by decide)) rfl rfl eO6 dX4_init_17 (fun H locs hI => ?_)
  refine lv_aload_n hx hb dX4_init_20 rfl (lv_at hl 0 rfl) ?_
  refine lv_bipush (v := 48) hx hb dX4_init_21 (by decide) ?_
  obtain ⟨G7, eG7, hf⟩ := bnd_i hf
  refine s_newI E u1_80 hK hI hA (e0 + 3) (fr_of hCl hOR hn_e03) hsh_e03 (by decide) (by decide) (by decide) ⟨by decide, by decide⟩ dX4_init_23 (fun q H hI => ?_)
  rw [← eG7] at hI
  obtain ⟨K8, eK8⟩ : ∃ z, z = K5 ++ [(e0 + 3)] := ⟨_, rfl⟩
  obtain ⟨ad8, ea8⟩ : ∃ z, z = adU ad5 (e0 + 3) q := ⟨_, rfl⟩
  rw [← eK8, ← ea8] at hI
  have hin8 : ∀ b ∈ K5, b ∈ K8 := fun b hb => by rw [eK8]; exact List.mem_append_left _ hb
  have hk8 : (e0 + 3) ∈ K8 := by rw [eK8]; exact List.mem_append_right _ (List.mem_singleton.mpr rfl)
  have hq8 : q = ad8 (e0 + 3) := by rw [ea8]; exact adU_k.symm
  have had8 : ∀ b ∈ K5, ad8 b = ad5 b := fun b hb => by rw [ea8]; exact adU_in hb hn_e03
  have hr8_0 := had8 _ ((⟨hm_e0, hsh_e0⟩ : e0 ∈ K5 ∧ _)).1
  have had : ∀ b ∈ K, ad8 b = ad b := fun b hb => (had8 b (hsub b hb)).trans (had b hb)
  have hsub : ∀ b ∈ K, b ∈ K8 := fun b hb => hin8 b (hsub b hb)
  have hcl : Bcl (AS K8 ad8 X) B := hclA.mono (AS_D hI.2.1)
  have hm_e0 := hin8 _ hm_e0
  have hm_e01 := hin8 _ hm_e01
  have hm_e02 := hin8 _ hm_e02
  have hn_e04 : (e0 + 4) ∉ K8 := by rw [eK8]; exact nin_push hn_e04 (by omega)
  have hn_e05 : (e0 + 5) ∉ K8 := by rw [eK8]; exact nin_push hn_e05 (by omega)
  have hm_e03 := hk8
  have hCl : Cl K8 sh := by rw [eK8]; exact hCl.push (by rw [hsh_e03]; simp)
  have hOR : ORf K8 O6 := hOR.mono hin8
  rw [← hr8_0] at hl
  rw [hq8, ← hr8_0]
  obtain ⟨O9, eO9, hf⟩ := bnd_i hf
  have hOR := hOR.up (k := e0) (j := 2) ((⟨hm_e03, hsh_e03⟩ : (e0 + 3) ∈ K8 ∧ _)).1
  rw [← eO9] at hOR
  refine s_putOF (ty := tyX4 2) E hnm inU4 tyX4_ok nmX4 hK hI (⟨hm_e0, hsh_e0⟩ : e0 ∈ K8 ∧ _) rfl 2 (by decide) u1_46 (fun _ h => h) rfl rfl rfl (tyX4_ok 2 (by decide)) rfl rfl eO9 dX4_init_25 (fun H locs hI => ?_)
  refine lv_aload_n hx hb dX4_init_28 rfl (lv_at hl 0 rfl) ?_
  refine lv_iconst (v := 4) hx hb dX4_init_29 (by decide) ?_
  obtain ⟨G10, eG10, hf⟩ := bnd_i hf
  refine s_newI E u1_80 hK hI hA (e0 + 4) (fr_of hCl hOR hn_e04) hsh_e04 (by decide) (by decide) (by decide) ⟨by decide, by decide⟩ dX4_init_30 (fun q H hI => ?_)
  rw [← eG10] at hI
  obtain ⟨K11, eK11⟩ : ∃ z, z = K8 ++ [(e0 + 4)] := ⟨_, rfl⟩
  obtain ⟨ad11, ea11⟩ : ∃ z, z = adU ad8 (e0 + 4) q := ⟨_, rfl⟩
  rw [← eK11, ← ea11] at hI
  have hin11 : ∀ b ∈ K8, b ∈ K11 := fun b hb => by rw [eK11]; exact List.mem_append_left _ hb
  have hk11 : (e0 + 4) ∈ K11 := by rw [eK11]; exact List.mem_append_right _ (List.mem_singleton.mpr rfl)
  have hq11 : q = ad11 (e0 + 4) := by rw [ea11]; exact adU_k.symm
  have had11 : ∀ b ∈ K8, ad11 b = ad8 b := fun b hb => by rw [ea11]; exact adU_in hb hn_e04
  have hr11_0 := had11 _ ((⟨hm_e0, hsh_e0⟩ : e0 ∈ K8 ∧ _)).1
  have had : ∀ b ∈ K, ad11 b = ad b := fun b hb => (had11 b (hsub b hb)).trans (had b hb)
  have hsub : ∀ b ∈ K, b ∈ K11 := fun b hb => hin11 b (hsub b hb)
  have hcl : Bcl (AS K11 ad11 X) B := hclA.mono (AS_D hI.2.1)
  have hm_e0 := hin11 _ hm_e0
  have hm_e01 := hin11 _ hm_e01
  have hm_e02 := hin11 _ hm_e02
  have hm_e03 := hin11 _ hm_e03
  have hn_e05 : (e0 + 5) ∉ K11 := by rw [eK11]; exact nin_push hn_e05 (by omega)
  have hm_e04 := hk11
  have hCl : Cl K11 sh := by rw [eK11]; exact hCl.push (by rw [hsh_e04]; simp)
  have hOR : ORf K11 O9 := hOR.mono hin11
  rw [← hr11_0] at hl
  rw [hq11, ← hr11_0]
  obtain ⟨O12, eO12, hf⟩ := bnd_i hf
  have hOR := hOR.up (k := e0) (j := 3) ((⟨hm_e04, hsh_e04⟩ : (e0 + 4) ∈ K11 ∧ _)).1
  rw [← eO12] at hOR
  refine s_putOF (ty := tyX4 3) E hnm inU4 tyX4_ok nmX4 hK hI (⟨hm_e0, hsh_e0⟩ : e0 ∈ K11 ∧ _) rfl 3 (by decide) u1_49 (fun _ h => h) rfl rfl rfl (tyX4_ok 3 (by decide)) rfl rfl eO12 dX4_init_32 (fun H locs hI => ?_)
  refine lv_aload_n hx hb dX4_init_35 rfl (lv_at hl 0 rfl) ?_
  refine lv_bipush (v := 10) hx hb dX4_init_36 (by decide) ?_
  obtain ⟨G13, eG13, hf⟩ := bnd_i hf
  refine s_newI E u1_80 hK hI hA (e0 + 5) (fr_of hCl hOR hn_e05) hsh_e05 (by decide) (by decide) (by decide) ⟨by decide, by decide⟩ dX4_init_38 (fun q H hI => ?_)
  rw [← eG13] at hI
  obtain ⟨K14, eK14⟩ : ∃ z, z = K11 ++ [(e0 + 5)] := ⟨_, rfl⟩
  obtain ⟨ad14, ea14⟩ : ∃ z, z = adU ad11 (e0 + 5) q := ⟨_, rfl⟩
  rw [← eK14, ← ea14] at hI
  have hin14 : ∀ b ∈ K11, b ∈ K14 := fun b hb => by rw [eK14]; exact List.mem_append_left _ hb
  have hk14 : (e0 + 5) ∈ K14 := by rw [eK14]; exact List.mem_append_right _ (List.mem_singleton.mpr rfl)
  have hq14 : q = ad14 (e0 + 5) := by rw [ea14]; exact adU_k.symm
  have had14 : ∀ b ∈ K11, ad14 b = ad11 b := fun b hb => by rw [ea14]; exact adU_in hb hn_e05
  have hr14_0 := had14 _ ((⟨hm_e0, hsh_e0⟩ : e0 ∈ K11 ∧ _)).1
  have had : ∀ b ∈ K, ad14 b = ad b := fun b hb => (had14 b (hsub b hb)).trans (had b hb)
  have hsub : ∀ b ∈ K, b ∈ K14 := fun b hb => hin14 b (hsub b hb)
  have hcl : Bcl (AS K14 ad14 X) B := hclA.mono (AS_D hI.2.1)
  have hm_e0 := hin14 _ hm_e0
  have hm_e01 := hin14 _ hm_e01
  have hm_e02 := hin14 _ hm_e02
  have hm_e03 := hin14 _ hm_e03
  have hm_e04 := hin14 _ hm_e04
  have hm_e05 := hk14
  have hCl : Cl K14 sh := by rw [eK14]; exact hCl.push (by rw [hsh_e05]; simp)
  have hOR : ORf K14 O12 := hOR.mono hin14
  rw [← hr14_0] at hl
  rw [hq14, ← hr14_0]
  obtain ⟨O15, eO15, hf⟩ := bnd_i hf
  have hOR := hOR.up (k := e0) (j := 4) ((⟨hm_e05, hsh_e05⟩ : (e0 + 5) ∈ K14 ∧ _)).1
  rw [← eO15] at hOR
  refine s_putOF (ty := tyX4 4) E hnm inU4 tyX4_ok nmX4 hK hI (⟨hm_e0, hsh_e0⟩ : e0 ∈ K14 ∧ _) rfl 4 (by decide) u1_52 (fun _ h => h) rfl rfl rfl (tyX4_ok 4 (by decide)) rfl rfl eO15 dX4_init_40 (fun H locs hI => ?_)
  refine lv_aload_n hx hb dX4_init_43 rfl (lv_at hl 0 rfl) ?_
  refine lv_bipush (v := 24) hx hb dX4_init_44 (by decide) ?_
  obtain ⟨G16, eG16, hf⟩ := bnd_i hf
  refine s_put (ty := .int) hx hb hu inU4 tyX4_ok nmX4 hown hK hI (⟨hm_e0, hsh_e0⟩ : e0 ∈ K14 ∧ _) rfl 5 (by decide) u1_55 (fun _ h => h) rfl rfl (tyX4_ok 5 (by decide)) rfl rfl eG16 dX4_init_46 (fun H locs hI => ?_)
  refine lv_aload_n hx hb dX4_init_49 rfl (lv_at hl 0 rfl) ?_
  refine lv_iconst (v := 0) hx hb dX4_init_50 (by decide) ?_
  obtain ⟨G17, eG17, hf⟩ := bnd_i hf
  refine s_put (ty := .int) hx hb hu inU4 tyX4_ok nmX4 hown hK hI (⟨hm_e0, hsh_e0⟩ : e0 ∈ K14 ∧ _) rfl 6 (by decide) u1_58 (fun _ h => h) rfl rfl (tyX4_ok 6 (by decide)) rfl rfl eG17 dX4_init_51 (fun H locs hI => ?_)
  refine lv_aload_n hx hb dX4_init_54 rfl (lv_at hl 0 rfl) ?_
  refine lv_iconst (v := 0) hx hb dX4_init_55 (by decide) ?_
  obtain ⟨G18, eG18, hf⟩ := bnd_i hf
  refine s_put (ty := .int) hx hb hu inU4 tyX4_ok nmX4 hown hK hI (⟨hm_e0, hsh_e0⟩ : e0 ∈ K14 ∧ _) rfl 7 (by decide) u1_61 (fun _ h => h) rfl rfl (tyX4_ok 7 (by decide)) rfl rfl eG18 dX4_init_56 (fun H locs hI => ?_)
  refine lv_aload_n hx hb dX4_init_59 rfl (lv_at hl 0 rfl) ?_
  obtain ⟨h19, hf⟩ := chk_i hf
  refine s_get (v := va_rf (Option.map ad14 (O15 e0 0))) hx hb hu inU4 hown hK hI (⟨hm_e0, hsh_e0⟩ : e0 ∈ K14 ∧ _) rfl 0 (by decide) u1_40 (fun _ h => h) rfl rfl dX4_init_60 ?_
  refine s_nmO (of_decide_eq_true h19) ?_
  refine lv_iconst (v := 3) hx hb dX4_init_63 (by decide) ?_
  obtain ⟨G20, h21, hf⟩ := bndO_i hf
  refine s_afV hI (s_runS (rest := []) (np := 2) E hK hI (s_B hclA hBs hI) hcl.2 (c_J7_fill_53178 l D K14 sh ad14 cy X B hcl  (e0 + 1) 48 (⟨hm_e01, hsh_e01⟩ : (e0 + 1) ∈ K14 ∧ _) G18 L O15 3 h21) kyJ7_fill_53178 u1_37 u1_38 (by decide) rfl hl.1 rfl (Nat.le_of_ble_eq_true rfl) ⟨by decide, by decide⟩ dX4_init_64) (fun H locs hI => ?_)
  cases hf
  subst eK14
  subst eK11
  subst eK8
  subst eK5
  subst eK2
  refine W.widen (k := 5) (n := 158) (by decide) (by decide) ?_
  exact s_vretZ E had rfl rfl hI dX4_init_67
set_option maxRecDepth 100000 in
noncomputable def f_X5_init (G : Mem) (O : MemO)  : Option (Mem × MemO) := bnd (zr 0 G 115) (fun G1 => bnd (up2 O 114 0 (some 115)) (fun O3 => bnd (zr 0 G1 116) (fun G4 => bnd (up2 O3 114 1 (some 116)) (fun O6 => bnd (up2 G4 114 2 0) (fun G7 => some (G7, O6))))))
theorem kyX5_init : Ky yX5_init cX5_init 1 none 0 := ⟨u1_87, u1_4, by decide, by decide, by decide, by decide +kernel⟩
set_option maxHeartbeats 4000000 in
set_option maxRecDepth 100000 in
theorem c_X5_init (l : Launch) (D : va_G) (K : List Nat) (sh : Nat → Ent) (ad : Nat → Nat) (cy : Nat → ClassId) (X : va_W) (B : State → Prop) (sz : Nat) (hclA : Bcl (AZ K ad X sz) B) (hCl : Cl K sh) (hm_114 : 114 ∈ K) (hsh_114 : sh 114 = (0, 5, [1, 1, 0, 0, 0, 0, 0, 0])) (hsh_115 : sh 115 = (4, 160, [])) (hn_115 : 115 ∉ K) (hsh_116 : sh 116 = (1, 160, [])) (hn_116 : 116 ∉ K)  (G : Mem) (L : MemL) (O : MemO)  {Gz : Mem} {Oz : MemO} (hOR : ORf K O) (hf : f_X5_init G O = some (Gz, Oz)) : Met l yX5_init (wsU yX5_init cX5_init 1 none) (rmX 1 2 320) (va_Pc [.ref (ad 114)] (PZ sz D K sh ad cy X B G L O)) (QZ D K ad cy X (AZ K ad X sz) ((K ++ [115]) ++ [116]) (fun z => z = sh) Gz L Oz (fun _ => none)) 2 320 (AZ K ad X sz) := by
  refine s_metZ (by decide) (Nat.le_of_ble_eq_true rfl) ?_
  intro p e s m args below meth c ls H locs A0 eA0 hA E hK hBs hnm hI hl
  rw [← eA0] at hclA
  rw [← eA0]
  have hsub : ∀ b ∈ K, b ∈ K := fun b hb => hb
  have had : ∀ b ∈ K, ad b = ad b := fun b hb => rfl
  have hl : lv_has ls 1 [(0, .ref (ad 114))] := hl
  have E : Cx p s m args meth c RX5 cX5_init 1 none := E
  obtain ⟨hx, hb, hr, hml, hown, hu, hlocks⟩ := id E
  rw [f_X5_init] at hf
  refine lv_aload_n hx hb dX5_init_0 rfl (lv_at hl 0 rfl) ?_
  refine s_objI (rest := []) E hl.1 u1_88 u1_29 u1_30 (by decide) (Nat.le_of_ble_eq_true rfl) dX5_init_1 ?_
  refine lv_aload_n hx hb dX5_init_4 rfl (lv_at hl 0 rfl) ?_
  refine lv_sipush (v := 160) hx hb dX5_init_5 (by decide) ?_
  obtain ⟨G1, eG1, hf⟩ := bnd_i hf
  refine s_newC E u1_116 hK hI hA 115 (fr_of hCl hOR hn_115) hsh_115 (by decide) (by decide) (by decide) ⟨by decide, by decide⟩ dX5_init_8 (fun q H hI => ?_)
  rw [← eG1] at hI
  obtain ⟨K2, eK2⟩ : ∃ z, z = K ++ [115] := ⟨_, rfl⟩
  obtain ⟨ad2, ea2⟩ : ∃ z, z = adU ad 115 q := ⟨_, rfl⟩
  rw [← eK2, ← ea2] at hI
  have hin2 : ∀ b ∈ K, b ∈ K2 := fun b hb => by rw [eK2]; exact List.mem_append_left _ hb
  have hk2 : 115 ∈ K2 := by rw [eK2]; exact List.mem_append_right _ (List.mem_singleton.mpr rfl)
  have hq2 : q = ad2 115 := by rw [ea2]; exact adU_k.symm
  have had2 : ∀ b ∈ K, ad2 b = ad b := fun b hb => by rw [ea2]; exact adU_in hb hn_115
  have hr2_0 := had2 _ ((⟨hm_114, hsh_114⟩ : 114 ∈ K ∧ _)).1
  have had : ∀ b ∈ K, ad2 b = ad b := fun b hb => (had2 b (hsub b hb)).trans (had b hb)
  have hsub : ∀ b ∈ K, b ∈ K2 := fun b hb => hin2 b (hsub b hb)
  have hcl : Bcl (AS K2 ad2 X) B := hclA.mono (AS_D hI.2.1)
  have hm_114 := hin2 _ hm_114
  have hn_116 : 116 ∉ K2 := by rw [eK2]; exact nin_push hn_116 (by decide)
  have hm_115 := hk2
  have hCl : Cl K2 sh := by rw [eK2]; exact hCl.push (by rw [hsh_115]; simp)
  have hOR : ORf K2 O := hOR.mono hin2
  rw [← hr2_0] at hl
  rw [hq2, ← hr2_0]
  obtain ⟨O3, eO3, hf⟩ := bnd_i hf
  have hOR := hOR.up (k := 114) (j := 0) ((⟨hm_115, hsh_115⟩ : 115 ∈ K2 ∧ _)).1
  rw [← eO3] at hOR
  refine s_putOF (ty := tyX5 0) E hnm inU5 tyX5_ok nmX5 hK hI (⟨hm_114, hsh_114⟩ : 114 ∈ K2 ∧ _) rfl 0 (by decide) u1_89 (fun _ h => h) rfl rfl rfl (tyX5_ok 0 (by decide)) rfl rfl eO3 dX5_init_10 (fun H locs hI => ?_)
  refine lv_aload_n hx hb dX5_init_13 rfl (lv_at hl 0 rfl) ?_
  refine lv_sipush (v := 160) hx hb dX5_init_14 (by decide) ?_
  obtain ⟨G4, eG4, hf⟩ := bnd_i hf
  refine s_newI E u1_80 hK hI hA 116 (fr_of hCl hOR hn_116) hsh_116 (by decide) (by decide) (by decide) ⟨by decide, by decide⟩ dX5_init_17 (fun q H hI => ?_)
  rw [← eG4] at hI
  obtain ⟨K5, eK5⟩ : ∃ z, z = K2 ++ [116] := ⟨_, rfl⟩
  obtain ⟨ad5, ea5⟩ : ∃ z, z = adU ad2 116 q := ⟨_, rfl⟩
  rw [← eK5, ← ea5] at hI
  have hin5 : ∀ b ∈ K2, b ∈ K5 := fun b hb => by rw [eK5]; exact List.mem_append_left _ hb
  have hk5 : 116 ∈ K5 := by rw [eK5]; exact List.mem_append_right _ (List.mem_singleton.mpr rfl)
  have hq5 : q = ad5 116 := by rw [ea5]; exact adU_k.symm
  have had5 : ∀ b ∈ K2, ad5 b = ad2 b := fun b hb => by rw [ea5]; exact adU_in hb hn_116
  have hr5_0 := had5 _ ((⟨hm_114, hsh_114⟩ : 114 ∈ K2 ∧ _)).1
  have had : ∀ b ∈ K, ad5 b = ad b := fun b hb => (had5 b (hsub b hb)).trans (had b hb)
  have hsub : ∀ b ∈ K, b ∈ K5 := fun b hb => hin5 b (hsub b hb)
  have hcl : Bcl (AS K5 ad5 X) B := hclA.mono (AS_D hI.2.1)
  have hm_114 := hin5 _ hm_114
  have hm_115 := hin5 _ hm_115
  have hm_116 := hk5
  have hCl : Cl K5 sh := by rw [eK5]; exact hCl.push (by rw [hsh_116]; simp)
  have hOR : ORf K5 O3 := hOR.mono hin5
  rw [← hr5_0] at hl
  rw [hq5, ← hr5_0]
  obtain ⟨O6, eO6, hf⟩ := bnd_i hf
  have hOR := hOR.up (k := 114) (j := 1) ((⟨hm_116, hsh_116⟩ : 116 ∈ K5 ∧ _)).1
  rw [← eO6] at hOR
  refine s_putOF (ty := tyX5 1) E hnm inU5 tyX5_ok nmX5 hK hI (⟨hm_114, hsh_114⟩ : 114 ∈ K5 ∧ _) rfl 1 (by decide) u1_90 (fun _ h => h) rfl rfl rfl (tyX5_ok 1 (by decide)) rfl rfl eO6 dX5_init_19 (fun H locs hI => ?_)
  refine lv_aload_n hx hb dX5_init_22 rfl (lv_at hl 0 rfl) ?_
  refine lv_iconst (v := 0) hx hb dX5_init_23 (by decide) ?_
  obtain ⟨G7, eG7, hf⟩ := bnd_i hf
  refine s_put (ty := .int) hx hb hu inU5 tyX5_ok nmX5 hown hK hI (⟨hm_114, hsh_114⟩ : 114 ∈ K5 ∧ _) rfl 2 (by decide) u1_91 (fun _ h => h) rfl rfl (tyX5_ok 2 (by decide)) rfl rfl eG7 dX5_init_24 (fun H locs hI => ?_)
  cases hf
  subst eK5
  subst eK2
  refine W.widen (k := 2) (n := 320) (by decide) (by decide) ?_
  exact s_vretZ E had rfl rfl hI dX5_init_27
set_option maxRecDepth 100000 in
noncomputable def f_X6_init (e0 : Nat) (G : Mem) (O : MemO)  : Option (Mem × MemO) := bnd (zr 0 G (e0 + 4)) (fun G1 => bnd (up2 O e0 0 (some (e0 + 4))) (fun O3 => bnd (up2 G1 e0 1 (-1)) (fun G4 => bnd (up2 G4 e0 2 0) (fun G5 => some (G5, O3)))))
theorem kyX6_init : Ky yX6_init cX6_init 1 none 0 := ⟨u1_183, u1_6, by decide, by decide, by decide, by decide +kernel⟩
set_option maxHeartbeats 4000000 in
set_option maxRecDepth 100000 in
theorem c_X6_init (l : Launch) (D : va_G) (K : List Nat) (sh : Nat → Ent) (ad : Nat → Nat) (cy : Nat → ClassId) (X : va_W) (B : State → Prop) (sz : Nat) (hclA : Bcl (AZ K ad X sz) B) (hCl : Cl K sh) (e0 : Nat) (hm_e0 : e0 ∈ K) (hsh_e0 : sh e0 = (0, 6, [1, 0, 0])) (hsh_e04 : sh (e0 + 4) = (1, 40, [])) (hn_e04 : (e0 + 4) ∉ K)  (G : Mem) (L : MemL) (O : MemO)  {Gz : Mem} {Oz : MemO} (hOR : ORf K O) (hf : f_X6_init e0 G O = some (Gz, Oz)) : Met l yX6_init (wsU yX6_init cX6_init 1 none) (rmX 1 1 40) (va_Pc [.ref (ad e0)] (PZ sz D K sh ad cy X B G L O)) (QZ D K ad cy X (AZ K ad X sz) (K ++ [e0 + 4]) (fun z => z = sh) Gz L Oz (fun _ => none)) 1 40 (AZ K ad X sz) := by
  refine s_metZ (by decide) (Nat.le_of_ble_eq_true rfl) ?_
  intro p e s m args below meth c ls H locs A0 eA0 hA E hK hBs hnm hI hl
  rw [← eA0] at hclA
  rw [← eA0]
  have hsub : ∀ b ∈ K, b ∈ K := fun b hb => hb
  have had : ∀ b ∈ K, ad b = ad b := fun b hb => rfl
  have hl : lv_has ls 1 [(0, .ref (ad e0))] := hl
  have E : Cx p s m args meth c RX6 cX6_init 1 none := E
  obtain ⟨hx, hb, hr, hml, hown, hu, hlocks⟩ := id E
  rw [f_X6_init] at hf
  refine lv_aload_n hx hb dX6_init_0 rfl (lv_at hl 0 rfl) ?_
  refine s_objI (rest := []) E hl.1 u1_184 u1_29 u1_30 (by decide) (Nat.le_of_ble_eq_true rfl) dX6_init_1 ?_
  refine lv_aload_n hx hb dX6_init_4 rfl (lv_at hl 0 rfl) ?_
  refine lv_bipush (v := 40) hx hb dX6_init_5 (by decide) ?_
  obtain ⟨G1, eG1, hf⟩ := bnd_i hf
  refine s_newI E u1_80 hK hI hA (e0 + 4) (fr_of hCl hOR hn_e04) hsh_e04 (by decide) (by decide) (by decide) ⟨by decide, by decide⟩ dX6_init_7 (fun q H hI => ?_)
  rw [← eG1] at hI
  obtain ⟨K2, eK2⟩ : ∃ z, z = K ++ [(e0 + 4)] := ⟨_, rfl⟩
  obtain ⟨ad2, ea2⟩ : ∃ z, z = adU ad (e0 + 4) q := ⟨_, rfl⟩
  rw [← eK2, ← ea2] at hI
  have hin2 : ∀ b ∈ K, b ∈ K2 := fun b hb => by rw [eK2]; exact List.mem_append_left _ hb
  have hk2 : (e0 + 4) ∈ K2 := by rw [eK2]; exact List.mem_append_right _ (List.mem_singleton.mpr rfl)
  have hq2 : q = ad2 (e0 + 4) := by rw [ea2]; exact adU_k.symm
  have had2 : ∀ b ∈ K, ad2 b = ad b := fun b hb => by rw [ea2]; exact adU_in hb hn_e04
  have hr2_0 := had2 _ ((⟨hm_e0, hsh_e0⟩ : e0 ∈ K ∧ _)).1
  have had : ∀ b ∈ K, ad2 b = ad b := fun b hb => (had2 b (hsub b hb)).trans (had b hb)
  have hsub : ∀ b ∈ K, b ∈ K2 := fun b hb => hin2 b (hsub b hb)
  have hcl : Bcl (AS K2 ad2 X) B := hclA.mono (AS_D hI.2.1)
  have hm_e0 := hin2 _ hm_e0
  have hm_e04 := hk2
  have hCl : Cl K2 sh := by rw [eK2]; exact hCl.push (by rw [hsh_e04]; simp)
  have hOR : ORf K2 O := hOR.mono hin2
  rw [← hr2_0] at hl
  rw [hq2, ← hr2_0]
  obtain ⟨O3, eO3, hf⟩ := bnd_i hf
  have hOR := hOR.up (k := e0) (j := 0) ((⟨hm_e04, hsh_e04⟩ : (e0 + 4) ∈ K2 ∧ _)).1
  rw [← eO3] at hOR
  refine s_putOF (ty := tyX6 0) E hnm inU6 tyX6_ok nmX6 hK hI (⟨hm_e0, hsh_e0⟩ : e0 ∈ K2 ∧ _) rfl 0 (by decide) u1_185 (fun _ h => h) rfl rfl rfl (tyX6_ok 0 (by decide)) rfl rfl eO3 dX6_init_9 (fun H locs hI => ?_)
  refine lv_aload_n hx hb dX6_init_12 rfl (lv_at hl 0 rfl) ?_
  refine lv_iconst (v := (-1)) hx hb dX6_init_13 (by decide) ?_
  obtain ⟨G4, eG4, hf⟩ := bnd_i hf
  refine s_put (ty := .int) hx hb hu inU6 tyX6_ok nmX6 hown hK hI (⟨hm_e0, hsh_e0⟩ : e0 ∈ K2 ∧ _) rfl 1 (by decide) u1_188 (fun _ h => h) rfl rfl (tyX6_ok 1 (by decide)) rfl rfl eG4 dX6_init_14 (fun H locs hI => ?_)
  refine lv_aload_n hx hb dX6_init_17 rfl (lv_at hl 0 rfl) ?_
  refine lv_iconst (v := 0) hx hb dX6_init_18 (by decide) ?_
  obtain ⟨G5, eG5, hf⟩ := bnd_i hf
  refine s_put (ty := .int) hx hb hu inU6 tyX6_ok nmX6 hown hK hI (⟨hm_e0, hsh_e0⟩ : e0 ∈ K2 ∧ _) rfl 2 (by decide) u1_190 (fun _ h => h) rfl rfl (tyX6_ok 2 (by decide)) rfl rfl eG5 dX6_init_19 (fun H locs hI => ?_)
  cases hf
  subst eK2
  refine W.widen (k := 1) (n := 40) (by decide) (by decide) ?_
  exact s_vretZ E had rfl rfl hI dX6_init_22
set_option maxRecDepth 100000 in
noncomputable def f_X1_init (G : Mem) (L : MemL) (O : MemO)  : Option (Mem × MemL × MemO) := bnd (zr 0 G 129) (fun G1 => bnd (up2 O 128 2 (some 129)) (fun O3 => bnd (zr 0 G1 130) (fun G4 => bnd (up2 O3 128 3 (some 130)) (fun O6 => bnd (zr 0 G4 131) (fun G7 => bnd (up2 O6 128 4 (some 131)) (fun O9 => bnd (zr 0 G7 132) (fun G10 => bnd (up2 O9 128 5 (some 132)) (fun O12 => bnd (zr 0 L 133) (fun L13 => bnd (up2 O12 128 6 (some 133)) (fun O15 => bnd (zr 0 G10 134) (fun G16 => bnd (up2 O15 128 7 (some 134)) (fun O18 => bnd (zr 0 G16 135) (fun G19 => bnd (up2 O18 128 8 (some 135)) (fun O21 => bnd (zr 0 G19 136) (fun G22 => bnd (up2 O21 128 9 (some 136)) (fun O24 => bnd (up2 O24 128 0 (some 101)) (fun O25 => bnd (up2 O25 128 1 (some 113)) (fun O26 => some (G22, L13, O26)))))))))))))))))))
theorem kyX1_init : Ky yX1_init cX1_init 3 none 2 := ⟨u1_125, u1_5, by decide, by decide, by decide, by decide +kernel⟩
set_option maxHeartbeats 4000000 in
set_option maxRecDepth 100000 in
theorem c_X1_init (l : Launch) (D : va_G) (K : List Nat) (sh : Nat → Ent) (ad : Nat → Nat) (cy : Nat → ClassId) (X : va_W) (B : State → Prop) (sz : Nat) (hclA : Bcl (AZ K ad X sz) B) (hCl : Cl K sh) (hm_128 : 128 ∈ K) (hsh_128 : sh 128 = (0, 1, [1, 1, 1, 1, 1, 1, 1, 1, 1, 1, 0, 0, 1, 0, 0, 0])) (hsh_129 : sh 129 = (1, 6, [])) (hn_129 : 129 ∉ K) (hsh_130 : sh 130 = (1, 10, [])) (hn_130 : 130 ∉ K) (hsh_131 : sh 131 = (1, 10, [])) (hn_131 : 131 ∉ K) (hsh_132 : sh 132 = (1, 10, [])) (hn_132 : 132 ∉ K) (hsh_133 : sh 133 = (5, 10, [])) (hn_133 : 133 ∉ K) (hsh_134 : sh 134 = (1, 4, [])) (hn_134 : 134 ∉ K) (hsh_135 : sh 135 = (1, 4, [])) (hn_135 : 135 ∉ K) (hsh_136 : sh 136 = (1, 48, [])) (hn_136 : 136 ∉ K) (hm_101 : 101 ∈ K) (hm_113 : 113 ∈ K)  (G : Mem) (L : MemL) (O : MemO)  {Gz : Mem} {Lz : MemL} {Oz : MemO} (hOR : ORf K O) (hf : f_X1_init G L O = some (Gz, Lz, Oz)) : Met l yX1_init (wsU yX1_init cX1_init 3 none) (rmX 1 8 102) (va_Pc [.ref (ad 128), .ref (ad 101), .ref (ad 113)] (PZ sz D K sh ad cy X B G L O)) (QZ D K ad cy X (AZ K ad X sz) ((((((((K ++ [129]) ++ [130]) ++ [131]) ++ [132]) ++ [133]) ++ [134]) ++ [135]) ++ [136]) (fun z => z = sh) Gz Lz Oz (fun _ => none)) 8 102 (AZ K ad X sz) := by
  refine s_metZ (by decide) (Nat.le_of_ble_eq_true rfl) ?_
  intro p e s m args below meth c ls H locs A0 eA0 hA E hK hBs hnm hI hl
  rw [← eA0] at hclA
  rw [← eA0]
  have hsub : ∀ b ∈ K, b ∈ K := fun b hb => hb
  have had : ∀ b ∈ K, ad b = ad b := fun b hb => rfl
  have hl : lv_has ls 3 [(0, .ref (ad 128)), (1, .ref (ad 101)), (2, .ref (ad 113))] := hl
  have E : Cx p s m args meth c RX1 cX1_init 3 none := E
  obtain ⟨hx, hb, hr, hml, hown, hu, hlocks⟩ := id E
  rw [f_X1_init] at hf
  refine lv_aload_n hx hb dX1_init_0 rfl (lv_at hl 0 rfl) ?_
  refine s_objI (rest := []) E hl.1 u1_126 u1_29 u1_30 (by decide) (Nat.le_of_ble_eq_true rfl) dX1_init_1 ?_
  refine lv_aload_n hx hb dX1_init_4 rfl (lv_at hl 0 rfl) ?_
  refine lv_bipush (v := 6) hx hb dX1_init_5 (by decide) ?_
  obtain ⟨G1, eG1, hf⟩ := bnd_i hf
  refine s_newI E u1_80 hK hI hA 129 (fr_of hCl hOR hn_129) hsh_129 (by decide) (by decide) (by decide) ⟨by decide, by decide⟩ dX1_init_7 (fun q H hI => ?_)
  rw [← eG1] at hI
  obtain ⟨K2, eK2⟩ : ∃ z, z = K ++ [129] := ⟨_, rfl⟩
  obtain ⟨ad2, ea2⟩ : ∃ z, z = adU ad 129 q := ⟨_, rfl⟩
  rw [← eK2, ← ea2] at hI
  have hin2 : ∀ b ∈ K, b ∈ K2 := fun b hb => by rw [eK2]; exact List.mem_append_left _ hb
  have hk2 : 129 ∈ K2 := by rw [eK2]; exact List.mem_append_right _ (List.mem_singleton.mpr rfl)
  have hq2 : q = ad2 129 := by rw [ea2]; exact adU_k.symm
  have had2 : ∀ b ∈ K, ad2 b = ad b := fun b hb => by rw [ea2]; exact adU_in hb hn_129
  have hr2_0 := had2 _ ((⟨hm_128, hsh_128⟩ : 128 ∈ K ∧ _)).1
  have hr2_1 := had2 _ ((⟨hm_101, rfl⟩ : 101 ∈ K ∧ sh 101 = sh 101)).1
  have hr2_2 := had2 _ ((⟨hm_113, rfl⟩ : 113 ∈ K ∧ sh 113 = sh 113)).1
  have had : ∀ b ∈ K, ad2 b = ad b := fun b hb => (had2 b (hsub b hb)).trans (had b hb)
  have hsub : ∀ b ∈ K, b ∈ K2 := fun b hb => hin2 b (hsub b hb)
  have hcl : Bcl (AS K2 ad2 X) B := hclA.mono (AS_D hI.2.1)
  have hm_128 := hin2 _ hm_128
  have hm_101 := hin2 _ hm_101
  have hm_113 := hin2 _ hm_113
  have hn_130 : 130 ∉ K2 := by rw [eK2]; exact nin_push hn_130 (by decide)
  have hn_131 : 131 ∉ K2 := by rw [eK2]; exact nin_push hn_131 (by decide)
  have hn_132 : 132 ∉ K2 := by rw [eK2]; exact nin_push hn_132 (by decide)
  have hn_133 : 133 ∉ K2 := by rw [eK2]; exact nin_push hn_133 (by decide)
  have hn_134 : 134 ∉ K2 := by rw [eK2]; exact nin_push hn_134 (by decide)
  have hn_135 : 135 ∉ K2 := by rw [eK2]; exact nin_push hn_135 (by decide)
  have hn_136 : 136 ∉ K2 := by rw [eK2]; exact nin_push hn_136 (by decide)
  have hm_129 := hk2
  have hCl : Cl K2 sh := by rw [eK2]; exact hCl.push (by rw [hsh_129]; simp)
  have hOR : ORf K2 O := hOR.mono hin2
  rw [← hr2_0, ← hr2_1, ← hr2_2] at hl
  rw [hq2, ← hr2_0]
  obtain ⟨O3, eO3, hf⟩ := bnd_i hf
  have hOR := hOR.up (k := 128) (j := 2) ((⟨hm_129, hsh_129⟩ : 129 ∈ K2 ∧ _)).1
  rw [← eO3] at hOR
  refine s_putOF (ty := tyX1 2) E hnm inU1 tyX1_ok nmX1 hK hI (⟨hm_128, hsh_128⟩ : 128 ∈ K2 ∧ _) rfl 2 (by decide) u1_129 (fun _ h => h) rfl rfl rfl (tyX1_ok 2 (by decide)) rfl rfl eO3 dX1_init_9 (fun H locs hI => ?_)
  refine lv_aload_n hx hb dX1_init_12 rfl (lv_at hl 0 rfl) ?_
  refine lv_bipush (v := 10) hx hb dX1_init_13 (by decide) ?_
  obtain ⟨G4, eG4, hf⟩ := bnd_i hf
  refine s_newI E u1_80 hK hI hA 130 (fr_of hCl hOR hn_130) hsh_130 (by decide) (by decide) (by decide) ⟨by decide, by decide⟩ dX1_init_15 (fun q H hI => ?_)
  rw [← eG4] at hI
  obtain ⟨K5, eK5⟩ : ∃ z, z = K2 ++ [130] := ⟨_, rfl⟩
  obtain ⟨ad5, ea5⟩ : ∃ z, z = adU ad2 130 q := ⟨_, rfl⟩
  rw [← eK5, ← ea5] at hI
  have hin5 : ∀ b ∈ K2, b ∈ K5 := fun b hb => by rw [eK5]; exact List.mem_append_left _ hb
  have hk5 : 130 ∈ K5 := by rw [eK5]; exact List.mem_append_right _ (List.mem_singleton.mpr rfl)
  have hq5 : q = ad5 130 := by rw [ea5]; exact adU_k.symm
  have had5 : ∀ b ∈ K2, ad5 b = ad2 b := fun b hb => by rw [ea5]; exact adU_in hb hn_130
  have hr5_0 := had5 _ ((⟨hm_128, hsh_128⟩ : 128 ∈ K2 ∧ _)).1
  have hr5_1 := had5 _ ((⟨hm_101, rfl⟩ : 101 ∈ K2 ∧ sh 101 = sh 101)).1
  have hr5_2 := had5 _ ((⟨hm_113, rfl⟩ : 113 ∈ K2 ∧ sh 113 = sh 113)).1
  have had : ∀ b ∈ K, ad5 b = ad b := fun b hb => (had5 b (hsub b hb)).trans (had b hb)
  have hsub : ∀ b ∈ K, b ∈ K5 := fun b hb => hin5 b (hsub b hb)
  have hcl : Bcl (AS K5 ad5 X) B := hclA.mono (AS_D hI.2.1)
  have hm_128 := hin5 _ hm_128
  have hm_101 := hin5 _ hm_101
  have hm_113 := hin5 _ hm_113
  have hm_129 := hin5 _ hm_129
  have hn_131 : 131 ∉ K5 := by rw [eK5]; exact nin_push hn_131 (by decide)
  have hn_132 : 132 ∉ K5 := by rw [eK5]; exact nin_push hn_132 (by decide)
  have hn_133 : 133 ∉ K5 := by rw [eK5]; exact nin_push hn_133 (by decide)
  have hn_134 : 134 ∉ K5 := by rw [eK5]; exact nin_push hn_134 (by decide)
  have hn_135 : 135 ∉ K5 := by rw [eK5]; exact nin_push hn_135 (by decide)
  have hn_136 : 136 ∉ K5 := by rw [eK5]; exact nin_push hn_136 (by decide)
  have hm_130 := hk5
  have hCl : Cl K5 sh := by rw [eK5]; exact hCl.push (by rw [hsh_130]; simp)
  have hOR : ORf K5 O3 := hOR.mono hin5
  rw [← hr5_0, ← hr5_1, ← hr5_2] at hl
  rw [hq5, ← hr5_0]
  obtain ⟨O6, eO6, hf⟩ := bnd_i hf
  have hOR := hOR.up (k := 128) (j := 3) ((⟨hm_130, hsh_130⟩ : 130 ∈ K5 ∧ _)).1
  rw [← eO6] at hOR
  refine s_putOF (ty := tyX1 3) E hnm inU1 tyX1_ok nmX1 hK hI (⟨hm_128, hsh_128⟩ : 128 ∈ K5 ∧ _) rfl 3 (by decide) u1_130 (fun _ h => h) rfl rfl rfl (tyX1_ok 3 (by decide)) rfl rfl eO6 dX1_init_17 (fun H locs hI => ?_)
  refine lv_aload_n hx hb dX1_init_20 rfl (lv_at hl 0 rfl) ?_
  refine lv_bipush (v := 10) hx hb dX1_init_21 (by decide) ?_
  obtain ⟨G7, eG7, hf⟩ := bnd_i hf
  refine s_newI E u1_80 hK hI hA 131 (fr_of hCl hOR hn_131) hsh_131 (by decide) (by decide) (by decide) ⟨by decide, by decide⟩ dX1_init_23 (fun q H hI => ?_)
  rw [← eG7] at hI
  obtain ⟨K8, eK8⟩ : ∃ z, z = K5 ++ [131] := ⟨_, rfl⟩
  obtain ⟨ad8, ea8⟩ : ∃ z, z = adU ad5 131 q := ⟨_, rfl⟩
  rw [← eK8, ← ea8] at hI
  have hin8 : ∀ b ∈ K5, b ∈ K8 := fun b hb => by rw [eK8]; exact List.mem_append_left _ hb
  have hk8 : 131 ∈ K8 := by rw [eK8]; exact List.mem_append_right _ (List.mem_singleton.mpr rfl)
  have hq8 : q = ad8 131 := by rw [ea8]; exact adU_k.symm
  have had8 : ∀ b ∈ K5, ad8 b = ad5 b := fun b hb => by rw [ea8]; exact adU_in hb hn_131
  have hr8_0 := had8 _ ((⟨hm_128, hsh_128⟩ : 128 ∈ K5 ∧ _)).1
  have hr8_1 := had8 _ ((⟨hm_101, rfl⟩ : 101 ∈ K5 ∧ sh 101 = sh 101)).1
  have hr8_2 := had8 _ ((⟨hm_113, rfl⟩ : 113 ∈ K5 ∧ sh 113 = sh 113)).1
  have had : ∀ b ∈ K, ad8 b = ad b := fun b hb => (had8 b (hsub b hb)).trans (had b hb)
  have hsub : ∀ b ∈ K, b ∈ K8 := fun b hb => hin8 b (hsub b hb)
  have hcl : Bcl (AS K8 ad8 X) B := hclA.mono (AS_D hI.2.1)
  have hm_128 := hin8 _ hm_128
  have hm_101 := hin8 _ hm_101
  have hm_113 := hin8 _ hm_113
  have hm_129 := hin8 _ hm_129
  have hm_130 := hin8 _ hm_130
  have hn_132 : 132 ∉ K8 := by rw [eK8]; exact nin_push hn_132 (by decide)
  have hn_133 : 133 ∉ K8 := by rw [eK8]; exact nin_push hn_133 (by decide)
  have hn_134 : 134 ∉ K8 := by rw [eK8]; exact nin_push hn_134 (by decide)
  have hn_135 : 135 ∉ K8 := by rw [eK8]; exact nin_push hn_135 (by decide)
  have hn_136 : 136 ∉ K8 := by rw [eK8]; exact nin_push hn_136 (by decide)
  have hm_131 := hk8
  have hCl : Cl K8 sh := by rw [eK8]; exact hCl.push (by rw [hsh_131]; simp)
  have hOR : ORf K8 O6 := hOR.mono hin8
  rw [← hr8_0, ← hr8_1, ← hr8_2] at hl
  rw [hq8, ← hr8_0]
  obtain ⟨O9, eO9, hf⟩ := bnd_i hf
  have hOR := hOR.up (k := 128) (j := 4) ((⟨hm_131, hsh_131⟩ : 131 ∈ K8 ∧ _)).1
  rw [← eO9] at hOR
  refine s_putOF (ty := tyX1 4) E hnm inU1 tyX1_ok nmX1 hK hI (⟨hm_128, hsh_128⟩ : 128 ∈ K8 ∧ _) rfl 4 (by decide) u1_131 (fun _ h => h) rfl rfl rfl (tyX1_ok 4 (by decide)) rfl rfl eO9 dX1_init_25 (fun H locs hI => ?_)
  refine lv_aload_n hx hb dX1_init_28 rfl (lv_at hl 0 rfl) ?_
  refine lv_bipush (v := 10) hx hb dX1_init_29 (by decide) ?_
  obtain ⟨G10, eG10, hf⟩ := bnd_i hf
  refine s_newI E u1_80 hK hI hA 132 (fr_of hCl hOR hn_132) hsh_132 (by decide) (by decide) (by decide) ⟨by decide, by decide⟩ dX1_init_31 (fun q H hI => ?_)
  rw [← eG10] at hI
  obtain ⟨K11, eK11⟩ : ∃ z, z = K8 ++ [132] := ⟨_, rfl⟩
  obtain ⟨ad11, ea11⟩ : ∃ z, z = adU ad8 132 q := ⟨_, rfl⟩
  rw [← eK11, ← ea11] at hI
  have hin11 : ∀ b ∈ K8, b ∈ K11 := fun b hb => by rw [eK11]; exact List.mem_append_left _ hb
  have hk11 : 132 ∈ K11 := by rw [eK11]; exact List.mem_append_right _ (List.mem_singleton.mpr rfl)
  have hq11 : q = ad11 132 := by rw [ea11]; exact adU_k.symm
  have had11 : ∀ b ∈ K8, ad11 b = ad8 b := fun b hb => by rw [ea11]; exact adU_in hb hn_132
  have hr11_0 := had11 _ ((⟨hm_128, hsh_128⟩ : 128 ∈ K8 ∧ _)).1
  have hr11_1 := had11 _ ((⟨hm_101, rfl⟩ : 101 ∈ K8 ∧ sh 101 = sh 101)).1
  have hr11_2 := had11 _ ((⟨hm_113, rfl⟩ : 113 ∈ K8 ∧ sh 113 = sh 113)).1
  have had : ∀ b ∈ K, ad11 b = ad b := fun b hb => (had11 b (hsub b hb)).trans (had b hb)
  have hsub : ∀ b ∈ K, b ∈ K11 := fun b hb => hin11 b (hsub b hb)
  have hcl : Bcl (AS K11 ad11 X) B := hclA.mono (AS_D hI.2.1)
  have hm_128 := hin11 _ hm_128
  have hm_101 := hin11 _ hm_101
  have hm_113 := hin11 _ hm_113
  have hm_129 := hin11 _ hm_129
  have hm_130 := hin11 _ hm_130
  have hm_131 := hin11 _ hm_131
  have hn_133 : 133 ∉ K11 := by rw [eK11]; exact nin_push hn_133 (by decide)
  have hn_134 : 134 ∉ K11 := by rw [eK11]; exact nin_push hn_134 (by decide)
  have hn_135 : 135 ∉ K11 := by rw [eK11]; exact nin_push hn_135 (by decide)
  have hn_136 : 136 ∉ K11 := by rw [eK11]; exact nin_push hn_136 (by decide)
  have hm_132 := hk11
  have hCl : Cl K11 sh := by rw [eK11]; exact hCl.push (by rw [hsh_132]; simp)
  have hOR : ORf K11 O9 := hOR.mono hin11
  rw [← hr11_0, ← hr11_1, ← hr11_2] at hl
  rw [hq11, ← hr11_0]
  obtain ⟨O12, eO12, hf⟩ := bnd_i hf
  have hOR := hOR.up (k := 128) (j := 5) ((⟨hm_132, hsh_132⟩ : 132 ∈ K11 ∧ _)).1
  rw [← eO12] at hOR
  refine s_putOF (ty := tyX1 5) E hnm inU1 tyX1_ok nmX1 hK hI (⟨hm_128, hsh_128⟩ : 128 ∈ K11 ∧ _) rfl 5 (by decide) u1_132 (fun _ h => h) rfl rfl rfl (tyX1_ok 5 (by decide)) rfl rfl eO12 dX1_init_33 (fun H locs hI => ?_)
  refine lv_aload_n hx hb dX1_init_36 rfl (lv_at hl 0 rfl) ?_
  refine lv_bipush (v := 10) hx hb dX1_init_37 (by decide) ?_
  obtain ⟨L13, eL13, hf⟩ := bnd_i hf
  refine s_newL E u1_179 hK hI hA 133 (fr_of hCl hOR hn_133) hsh_133 (by decide) (by decide) (by decide) ⟨by decide, by decide⟩ dX1_init_39 (fun q H hI => ?_)
  rw [← eL13] at hI
  obtain ⟨K14, eK14⟩ : ∃ z, z = K11 ++ [133] := ⟨_, rfl⟩
  obtain ⟨ad14, ea14⟩ : ∃ z, z = adU ad11 133 q := ⟨_, rfl⟩
  rw [← eK14, ← ea14] at hI
  have hin14 : ∀ b ∈ K11, b ∈ K14 := fun b hb => by rw [eK14]; exact List.mem_append_left _ hb
  have hk14 : 133 ∈ K14 := by rw [eK14]; exact List.mem_append_right _ (List.mem_singleton.mpr rfl)
  have hq14 : q = ad14 133 := by rw [ea14]; exact adU_k.symm
  have had14 : ∀ b ∈ K11, ad14 b = ad11 b := fun b hb => by rw [ea14]; exact adU_in hb hn_133
  have hr14_0 := had14 _ ((⟨hm_128, hsh_128⟩ : 128 ∈ K11 ∧ _)).1
  have hr14_1 := had14 _ ((⟨hm_101, rfl⟩ : 101 ∈ K11 ∧ sh 101 = sh 101)).1
  have hr14_2 := had14 _ ((⟨hm_113, rfl⟩ : 113 ∈ K11 ∧ sh 113 = sh 113)).1
  have had : ∀ b ∈ K, ad14 b = ad b := fun b hb => (had14 b (hsub b hb)).trans (had b hb)
  have hsub : ∀ b ∈ K, b ∈ K14 := fun b hb => hin14 b (hsub b hb)
  have hcl : Bcl (AS K14 ad14 X) B := hclA.mono (AS_D hI.2.1)
  have hm_128 := hin14 _ hm_128
  have hm_101 := hin14 _ hm_101
  have hm_113 := hin14 _ hm_113
  have hm_129 := hin14 _ hm_129
  have hm_130 := hin14 _ hm_130
  have hm_131 := hin14 _ hm_131
  have hm_132 := hin14 _ hm_132
  have hn_134 : 134 ∉ K14 := by rw [eK14]; exact nin_push hn_134 (by decide)
  have hn_135 : 135 ∉ K14 := by rw [eK14]; exact nin_push hn_135 (by decide)
  have hn_136 : 136 ∉ K14 := by rw [eK14]; exact nin_push hn_136 (by decide)
  have hm_133 := hk14
  have hCl : Cl K14 sh := by rw [eK14]; exact hCl.push (by rw [hsh_133]; simp)
  have hOR : ORf K14 O12 := hOR.mono hin14
  rw [← hr14_0, ← hr14_1, ← hr14_2] at hl
  rw [hq14, ← hr14_0]
  obtain ⟨O15, eO15, hf⟩ := bnd_i hf
  have hOR := hOR.up (k := 128) (j := 6) ((⟨hm_133, hsh_133⟩ : 133 ∈ K14 ∧ _)).1
  rw [← eO15] at hOR
  refine s_putOF (ty := tyX1 6) E hnm inU1 tyX1_ok nmX1 hK hI (⟨hm_128, hsh_128⟩ : 128 ∈ K14 ∧ _) rfl 6 (by decide) u1_134 (fun _ h => h) rfl rfl rfl (tyX1_ok 6 (by decide)) rfl rfl eO15 dX1_init_41 (fun H locs hI => ?_)
  refine lv_aload_n hx hb dX1_init_44 rfl (lv_at hl 0 rfl) ?_
  refine lv_iconst (v := 4) hx hb dX1_init_45 (by decide) ?_
  obtain ⟨G16, eG16, hf⟩ := bnd_i hf
  refine s_newI E u1_80 hK hI hA 134 (fr_of hCl hOR hn_134) hsh_134 (by decide) (by decide) (by decide) ⟨by decide, by decide⟩ dX1_init_46 (fun q H hI => ?_)
  rw [← eG16] at hI
  obtain ⟨K17, eK17⟩ : ∃ z, z = K14 ++ [134] := ⟨_, rfl⟩
  obtain ⟨ad17, ea17⟩ : ∃ z, z = adU ad14 134 q := ⟨_, rfl⟩
  rw [← eK17, ← ea17] at hI
  have hin17 : ∀ b ∈ K14, b ∈ K17 := fun b hb => by rw [eK17]; exact List.mem_append_left _ hb
  have hk17 : 134 ∈ K17 := by rw [eK17]; exact List.mem_append_right _ (List.mem_singleton.mpr rfl)
  have hq17 : q = ad17 134 := by rw [ea17]; exact adU_k.symm
  have had17 : ∀ b ∈ K14, ad17 b = ad14 b := fun b hb => by rw [ea17]; exact adU_in hb hn_134
  have hr17_0 := had17 _ ((⟨hm_128, hsh_128⟩ : 128 ∈ K14 ∧ _)).1
  have hr17_1 := had17 _ ((⟨hm_101, rfl⟩ : 101 ∈ K14 ∧ sh 101 = sh 101)).1
  have hr17_2 := had17 _ ((⟨hm_113, rfl⟩ : 113 ∈ K14 ∧ sh 113 = sh 113)).1
  have had : ∀ b ∈ K, ad17 b = ad b := fun b hb => (had17 b (hsub b hb)).trans (had b hb)
  have hsub : ∀ b ∈ K, b ∈ K17 := fun b hb => hin17 b (hsub b hb)
  have hcl : Bcl (AS K17 ad17 X) B := hclA.mono (AS_D hI.2.1)
  have hm_128 := hin17 _ hm_128
  have hm_101 := hin17 _ hm_101
  have hm_113 := hin17 _ hm_113
  have hm_129 := hin17 _ hm_129
  have hm_130 := hin17 _ hm_130
  have hm_131 := hin17 _ hm_131
  have hm_132 := hin17 _ hm_132
  have hm_133 := hin17 _ hm_133
  have hn_135 : 135 ∉ K17 := by rw [eK17]; exact nin_push hn_135 (by decide)
  have hn_136 : 136 ∉ K17 := by rw [eK17]; exact nin_push hn_136 (by decide)
  have hm_134 := hk17
  have hCl : Cl K17 sh := by rw [eK17]; exact hCl.push (by rw [hsh_134]; simp)
  have hOR : ORf K17 O15 := hOR.mono hin17
  rw [← hr17_0, ← hr17_1, ← hr17_2] at hl
  rw [hq17, ← hr17_0]
  obtain ⟨O18, eO18, hf⟩ := bnd_i hf
  have hOR := hOR.up (k := 128) (j := 7) ((⟨hm_134, hsh_134⟩ : 134 ∈ K17 ∧ _)).1
  rw [← eO18] at hOR
  refine s_putOF (ty := tyX1 7) E hnm inU1 tyX1_ok nmX1 hK hI (⟨hm_128, hsh_128⟩ : 128 ∈ K17 ∧ _) rfl 7 (by decide) u1_136 (fun _ h => h) rfl rfl rfl (tyX1_ok 7 (by decide)) rfl rfl eO18 dX1_init_48 (fun H locs hI => ?_)
  refine lv_aload_n hx hb dX1_init_51 rfl (lv_at hl 0 rfl) ?_
  refine lv_iconst (v := 4) hx hb dX1_init_52 (by decide) ?_
  obtain ⟨G19, eG19, hf⟩ := bnd_i hf
  refine s_newI E u1_80 hK hI hA 135 (fr_of hCl hOR hn_135) hsh_135 (by decide) (by decide) (by decide) ⟨by decide, by decide⟩ dX1_init_53 (fun q H hI => ?_)
  rw [← eG19] at hI
  obtain ⟨K20, eK20⟩ : ∃ z, z = K17 ++ [135] := ⟨_, rfl⟩
  obtain ⟨ad20, ea20⟩ : ∃ z, z = adU ad17 135 q := ⟨_, rfl⟩
  rw [← eK20, ← ea20] at hI
  have hin20 : ∀ b ∈ K17, b ∈ K20 := fun b hb => by rw [eK20]; exact List.mem_append_left _ hb
  have hk20 : 135 ∈ K20 := by rw [eK20]; exact List.mem_append_right _ (List.mem_singleton.mpr rfl)
  have hq20 : q = ad20 135 := by rw [ea20]; exact adU_k.symm
  have had20 : ∀ b ∈ K17, ad20 b = ad17 b := fun b hb => by rw [ea20]; exact adU_in hb hn_135
  have hr20_0 := had20 _ ((⟨hm_128, hsh_128⟩ : 128 ∈ K17 ∧ _)).1
  have hr20_1 := had20 _ ((⟨hm_101, rfl⟩ : 101 ∈ K17 ∧ sh 101 = sh 101)).1
  have hr20_2 := had20 _ ((⟨hm_113, rfl⟩ : 113 ∈ K17 ∧ sh 113 = sh 113)).1
  have had : ∀ b ∈ K, ad20 b = ad b := fun b hb => (had20 b (hsub b hb)).trans (had b hb)
  have hsub : ∀ b ∈ K, b ∈ K20 := fun b hb => hin20 b (hsub b hb)
  have hcl : Bcl (AS K20 ad20 X) B := hclA.mono (AS_D hI.2.1)
  have hm_128 := hin20 _ hm_128
  have hm_101 := hin20 _ hm_101
  have hm_113 := hin20 _ hm_113
  have hm_129 := hin20 _ hm_129
  have hm_130 := hin20 _ hm_130
  have hm_131 := hin20 _ hm_131
  have hm_132 := hin20 _ hm_132
  have hm_133 := hin20 _ hm_133
  have hm_134 := hin20 _ hm_134
  have hn_136 : 136 ∉ K20 := by rw [eK20]; exact nin_push hn_136 (by decide)
  have hm_135 := hk20
  have hCl : Cl K20 sh := by rw [eK20]; exact hCl.push (by rw [hsh_135]; simp)
  have hOR : ORf K20 O18 := hOR.mono hin20
  rw [← hr20_0, ← hr20_1, ← hr20_2] at hl
  rw [hq20, ← hr20_0]
  obtain ⟨O21, eO21, hf⟩ := bnd_i hf
  have hOR := hOR.up (k := 128) (j := 8) ((⟨hm_135, hsh_135⟩ : 135 ∈ K20 ∧ _)).1
  rw [← eO21] at hOR
  refine s_putOF (ty := tyX1 8) E hnm inU1 tyX1_ok nmX1 hK hI (⟨hm_128, hsh_128⟩ : 128 ∈ K20 ∧ _) rfl 8 (by decide) u1_137 (fun _ h => h) rfl rfl rfl (tyX1_ok 8 (by decide)) rfl rfl eO21 dX1_init_55 (fun H locs hI => ?_)
  refine lv_aload_n hx hb dX1_init_58 rfl (lv_at hl 0 rfl) ?_
  refine lv_bipush (v := 48) hx hb dX1_init_59 (by decide) ?_
  obtain ⟨G22, eG22, hf⟩ := bnd_i hf
  refine s_newI E u1_80 hK hI hA 136 (fr_of hCl hOR hn_136) hsh_136 (by decide) (by decide) (by decide) ⟨by decide, by decide⟩ dX1_init_61 (fun q H hI => ?_)
  rw [← eG22] at hI
  obtain ⟨K23, eK23⟩ : ∃ z, z = K20 ++ [136] := ⟨_, rfl⟩
  obtain ⟨ad23, ea23⟩ : ∃ z, z = adU ad20 136 q := ⟨_, rfl⟩
  rw [← eK23, ← ea23] at hI
  have hin23 : ∀ b ∈ K20, b ∈ K23 := fun b hb => by rw [eK23]; exact List.mem_append_left _ hb
  have hk23 : 136 ∈ K23 := by rw [eK23]; exact List.mem_append_right _ (List.mem_singleton.mpr rfl)
  have hq23 : q = ad23 136 := by rw [ea23]; exact adU_k.symm
  have had23 : ∀ b ∈ K20, ad23 b = ad20 b := fun b hb => by rw [ea23]; exact adU_in hb hn_136
  have hr23_0 := had23 _ ((⟨hm_128, hsh_128⟩ : 128 ∈ K20 ∧ _)).1
  have hr23_1 := had23 _ ((⟨hm_101, rfl⟩ : 101 ∈ K20 ∧ sh 101 = sh 101)).1
  have hr23_2 := had23 _ ((⟨hm_113, rfl⟩ : 113 ∈ K20 ∧ sh 113 = sh 113)).1
  have had : ∀ b ∈ K, ad23 b = ad b := fun b hb => (had23 b (hsub b hb)).trans (had b hb)
  have hsub : ∀ b ∈ K, b ∈ K23 := fun b hb => hin23 b (hsub b hb)
  have hcl : Bcl (AS K23 ad23 X) B := hclA.mono (AS_D hI.2.1)
  have hm_128 := hin23 _ hm_128
  have hm_101 := hin23 _ hm_101
  have hm_113 := hin23 _ hm_113
  have hm_129 := hin23 _ hm_129
  have hm_130 := hin23 _ hm_130
  have hm_131 := hin23 _ hm_131
  have hm_132 := hin23 _ hm_132
  have hm_133 := hin23 _ hm_133
  have hm_134 := hin23 _ hm_134
  have hm_135 := hin23 _ hm_135
  have hm_136 := hk23
  have hCl : Cl K23 sh := by rw [eK23]; exact hCl.push (by rw [hsh_136]; simp)
  have hOR : ORf K23 O21 := hOR.mono hin23
  rw [← hr23_0, ← hr23_1, ← hr23_2] at hl
  rw [hq23, ← hr23_0]
  obtain ⟨O24, eO24, hf⟩ := bnd_i hf
  have hOR := hOR.up (k := 128) (j := 9) ((⟨hm_136, hsh_136⟩ : 136 ∈ K23 ∧ _)).1
  rw [← eO24] at hOR
  refine s_putOF (ty := tyX1 9) E hnm inU1 tyX1_ok nmX1 hK hI (⟨hm_128, hsh_128⟩ : 128 ∈ K23 ∧ _) rfl 9 (by decide) u1_138 (fun _ h => h) rfl rfl rfl (tyX1_ok 9 (by decide)) rfl rfl eO24 dX1_init_63 (fun H locs hI => ?_)
  refine lv_aload_n hx hb dX1_init_66 rfl (lv_at hl 0 rfl) ?_
  refine lv_aload_n hx hb dX1_init_67 rfl (lv_at hl 1 rfl) ?_
  obtain ⟨O25, eO25, hf⟩ := bnd_i hf
  have hOR := hOR.up (k := 128) (j := 0) ((⟨hm_101, rfl⟩ : 101 ∈ K23 ∧ sh 101 = sh 101)).1
  rw [← eO25] at hOR
  refine s_putOF (ty := tyX1 0) E hnm inU1 tyX1_ok nmX1 hK hI (⟨hm_128, hsh_128⟩ : 128 ∈ K23 ∧ _) rfl 0 (by decide) u1_127 (fun _ h => h) rfl rfl rfl (tyX1_ok 0 (by decide)) rfl rfl eO25 dX1_init_68 (fun H locs hI => ?_)
  refine lv_aload_n hx hb dX1_init_71 rfl (lv_at hl 0 rfl) ?_
  refine lv_aload_n hx hb dX1_init_72 rfl (lv_at hl 2 rfl) ?_
  obtain ⟨O26, eO26, hf⟩ := bnd_i hf
  have hOR := hOR.up (k := 128) (j := 1) ((⟨hm_113, rfl⟩ : 113 ∈ K23 ∧ sh 113 = sh 113)).1
  rw [← eO26] at hOR
  refine s_putOF (ty := tyX1 1) E hnm inU1 tyX1_ok nmX1 hK hI (⟨hm_128, hsh_128⟩ : 128 ∈ K23 ∧ _) rfl 1 (by decide) u1_128 (fun _ h => h) rfl rfl rfl (tyX1_ok 1 (by decide)) rfl rfl eO26 dX1_init_73 (fun H locs hI => ?_)
  cases hf
  subst eK23
  subst eK20
  subst eK17
  subst eK14
  subst eK11
  subst eK8
  subst eK5
  subst eK2
  refine W.widen (k := 8) (n := 102) (by decide) (by decide) ?_
  exact s_vretZ E had rfl rfl hI dX1_init_76
set_option maxRecDepth 100000 in
noncomputable def f_X9_init (e0 : Nat) (G : Mem) (O : MemO)  : Option (Mem × MemO) := bnd (zr 0 G (e0 + 3)) (fun G1 => bnd (up2 O e0 2 (some (e0 + 3))) (fun O3 => bnd (up2 O3 e0 0 (some (e0 + 1))) (fun O4 => bnd (up2 O4 e0 1 (some (e0 + 2))) (fun O5 => some (G1, O5)))))
theorem kyX9_init : Ky yX9_init cX9_init 3 none 2 := ⟨u2_154, u1_13, by decide, by decide, by decide, by decide +kernel⟩
set_option maxHeartbeats 4000000 in
set_option maxRecDepth 100000 in
theorem c_X9_init (l : Launch) (D : va_G) (K : List Nat) (sh : Nat → Ent) (ad : Nat → Nat) (cy : Nat → ClassId) (X : va_W) (B : State → Prop) (sz : Nat) (hclA : Bcl (AZ K ad X sz) B) (hCl : Cl K sh) (e0 : Nat) (hm_e0 : e0 ∈ K) (hsh_e0 : sh e0 = (0, 9, [1, 1, 1])) (hsh_e03 : sh (e0 + 3) = (1, 32, [])) (hn_e03 : (e0 + 3) ∉ K) (hm_e01 : (e0 + 1) ∈ K) (hm_e02 : (e0 + 2) ∈ K)  (G : Mem) (L : MemL) (O : MemO)  {Gz : Mem} {Oz : MemO} (hOR : ORf K O) (hf : f_X9_init e0 G O = some (Gz, Oz)) : Met l yX9_init (wsU yX9_init cX9_init 3 none) (rmX 1 1 32) (va_Pc [.ref (ad e0), .ref (ad (e0 + 1)), .ref (ad (e0 + 2))] (PZ sz D K sh ad cy X B G L O)) (QZ D K ad cy X (AZ K ad X sz) (K ++ [e0 + 3]) (fun z => z = sh) Gz L Oz (fun _ => none)) 1 32 (AZ K ad X sz) := by
  refine s_metZ (by decide) (Nat.le_of_ble_eq_true rfl) ?_
  intro p e s m args below meth c ls H locs A0 eA0 hA E hK hBs hnm hI hl
  rw [← eA0] at hclA
  rw [← eA0]
  have hsub : ∀ b ∈ K, b ∈ K := fun b hb => hb
  have had : ∀ b ∈ K, ad b = ad b := fun b hb => rfl
  have hl : lv_has ls 3 [(0, .ref (ad e0)), (1, .ref (ad (e0 + 1))), (2, .ref (ad (e0 + 2)))] := hl
  have E : Cx p s m args meth c RX9 cX9_init 3 none := E
  obtain ⟨hx, hb, hr, hml, hown, hu, hlocks⟩ := id E
  rw [f_X9_init] at hf
  refine lv_aload_n hx hb dX9_init_0 rfl (lv_at hl 0 rfl) ?_
  refine s_objI (rest := []) E hl.1 u2_155 u1_29 u1_30 (by decide) (Nat.le_of_ble_eq_true rfl) dX9_init_1 ?_
  refine lv_aload_n hx hb dX9_init_4 rfl (lv_at hl 0 rfl) ?_
  refine lv_bipush (v := 32) hx hb dX9_init_5 (by decide) ?_
  obtain ⟨G1, eG1, hf⟩ := bnd_i hf
  refine s_newI E u1_80 hK hI hA (e0 + 3) (fr_of hCl hOR hn_e03) hsh_e03 (by decide) (by decide) (by decide) ⟨by decide, by decide⟩ dX9_init_7 (fun q H hI => ?_)
  rw [← eG1] at hI
  obtain ⟨K2, eK2⟩ : ∃ z, z = K ++ [(e0 + 3)] := ⟨_, rfl⟩
  obtain ⟨ad2, ea2⟩ : ∃ z, z = adU ad (e0 + 3) q := ⟨_, rfl⟩
  rw [← eK2, ← ea2] at hI
  have hin2 : ∀ b ∈ K, b ∈ K2 := fun b hb => by rw [eK2]; exact List.mem_append_left _ hb
  have hk2 : (e0 + 3) ∈ K2 := by rw [eK2]; exact List.mem_append_right _ (List.mem_singleton.mpr rfl)
  have hq2 : q = ad2 (e0 + 3) := by rw [ea2]; exact adU_k.symm
  have had2 : ∀ b ∈ K, ad2 b = ad b := fun b hb => by rw [ea2]; exact adU_in hb hn_e03
  have hr2_0 := had2 _ ((⟨hm_e0, hsh_e0⟩ : e0 ∈ K ∧ _)).1
  have hr2_1 := had2 _ ((⟨hm_e01, rfl⟩ : (e0 + 1) ∈ K ∧ sh (e0 + 1) = sh (e0 + 1))).1
  have hr2_2 := had2 _ ((⟨hm_e02, rfl⟩ : (e0 + 2) ∈ K ∧ sh (e0 + 2) = sh (e0 + 2))).1
  have had : ∀ b ∈ K, ad2 b = ad b := fun b hb => (had2 b (hsub b hb)).trans (had b hb)
  have hsub : ∀ b ∈ K, b ∈ K2 := fun b hb => hin2 b (hsub b hb)
  have hcl : Bcl (AS K2 ad2 X) B := hclA.mono (AS_D hI.2.1)
  have hm_e0 := hin2 _ hm_e0
  have hm_e01 := hin2 _ hm_e01
  have hm_e02 := hin2 _ hm_e02
  have hm_e03 := hk2
  have hCl : Cl K2 sh := by rw [eK2]; exact hCl.push (by rw [hsh_e03]; simp)
  have hOR : ORf K2 O := hOR.mono hin2
  rw [← hr2_0, ← hr2_1, ← hr2_2] at hl
  rw [hq2, ← hr2_0]
  obtain ⟨O3, eO3, hf⟩ := bnd_i hf
  have hOR := hOR.up (k := e0) (j := 2) ((⟨hm_e03, hsh_e03⟩ : (e0 + 3) ∈ K2 ∧ _)).1
  rw [← eO3] at hOR
  refine s_putOF (ty := tyX9 2) E hnm inU9 tyX9_ok nmX9 hK hI (⟨hm_e0, hsh_e0⟩ : e0 ∈ K2 ∧ _) rfl 2 (by decide) u2_158 (fun _ h => h) rfl rfl rfl (tyX9_ok 2 (by decide)) rfl rfl eO3 dX9_init_9 (fun H locs hI => ?_)
  refine lv_aload_n hx hb dX9_init_12 rfl (lv_at hl 0 rfl) ?_
  refine lv_aload_n hx hb dX9_init_13 rfl (lv_at hl 1 rfl) ?_
  obtain ⟨O4, eO4, hf⟩ := bnd_i hf
  have hOR := hOR.up (k := e0) (j := 0) ((⟨hm_e01, rfl⟩ : (e0 + 1) ∈ K2 ∧ sh (e0 + 1) = sh (e0 + 1))).1
  rw [← eO4] at hOR
  refine s_putOF (ty := tyX9 0) E hnm inU9 tyX9_ok nmX9 hK hI (⟨hm_e0, hsh_e0⟩ : e0 ∈ K2 ∧ _) rfl 0 (by decide) u2_156 (fun _ h => h) rfl rfl rfl (tyX9_ok 0 (by decide)) rfl rfl eO4 dX9_init_14 (fun H locs hI => ?_)
  refine lv_aload_n hx hb dX9_init_17 rfl (lv_at hl 0 rfl) ?_
  refine lv_aload_n hx hb dX9_init_18 rfl (lv_at hl 2 rfl) ?_
  obtain ⟨O5, eO5, hf⟩ := bnd_i hf
  have hOR := hOR.up (k := e0) (j := 1) ((⟨hm_e02, rfl⟩ : (e0 + 2) ∈ K2 ∧ sh (e0 + 2) = sh (e0 + 2))).1
  rw [← eO5] at hOR
  refine s_putOF (ty := tyX9 1) E hnm inU9 tyX9_ok nmX9 hK hI (⟨hm_e0, hsh_e0⟩ : e0 ∈ K2 ∧ _) rfl 1 (by decide) u2_157 (fun _ h => h) rfl rfl rfl (tyX9_ok 1 (by decide)) rfl rfl eO5 dX9_init_19 (fun H locs hI => ?_)
  cases hf
  subst eK2
  refine W.widen (k := 1) (n := 32) (by decide) (by decide) ?_
  exact s_vretZ E had rfl rfl hI dX9_init_22
