theorem kyX11_keepText : Ky yX11_keepText cX11_keepText 2 none 1 := ⟨u2_170, u1_1, by decide, by decide, by decide, by decide +kernel⟩
noncomputable def f_X11_keepTextN (G : Mem) (O : MemO)  : Option (Mem × MemO) := some (G, O)
set_option maxHeartbeats 4000000 in
set_option maxRecDepth 100000 in
theorem c_X11_keepTextN (l : Launch) (D : va_G) (K : List Nat) (sh : Nat → Ent) (ad : Nat → Nat) (cy : Nat → ClassId) (X : va_W) (B : State → Prop) (hcl : Bcl (AS K ad X) B) (S : Nat → Nat) (hE : HC S K sh) (G : Mem) (L : MemL) (O : MemO)  {Gz : Mem} {Oz : MemO} (hf : f_X11_keepTextN G O = some (Gz, Oz)) : Met l yX11_keepText (wsU yX11_keepText cX11_keepText 2 none) (rmX 1 0 0) (va_Pc [.ref (ad 100), .null] (PS D K sh ad cy X B G L O)) (QV (AS K ad X) (PH D K sh ad cy X Gz L Oz)) 0 0 (AS K ad X) := by
  refine s_met (by decide) (Nat.le_of_ble_eq_true rfl) ?_
  intro p e s m args below meth c ls H locs E hK hBs hnm hI hl
  have hl : lv_has ls 2 [(0, .ref (ad 100)), (1, .null)] := hl
  have E : Cx p s m args meth c RX11 cX11_keepText 2 none := E
  obtain ⟨hx, hb, hr, hml, hown, hu, hlocks⟩ := id E
  rw [f_X11_keepTextN] at hf
  refine lv_aload_nN hx hb dX11_keepText_0 rfl (lv_at hl 1 rfl) ?_
  refine lv_ifnullN (tgt := 33) hx hb dX11_keepText_1 (by decide) ?_
  cases hf
  exact s_vret hx hb hr hI.2.2 hI.1 hlocks dX11_keepText_33
noncomputable def f_X11_keepText (G : Mem) (O : MemO) (e1 : Nat) : Option (Mem × MemO) := (if 6 ≤ (G 100 7) then some (G, O) else chk (inB (G 100 7) 6) (bnd (up2 O 117 (G 100 7).toNatClampNeg (some e1)) (fun O3 => bnd (up2 G 100 7 ((G 100 7) + 1)) (fun G4 => some (G4, O3)))))
set_option maxHeartbeats 4000000 in
set_option maxRecDepth 100000 in
theorem c_X11_keepText (l : Launch) (D : va_G) (K : List Nat) (sh : Nat → Ent) (ad : Nat → Nat) (cy : Nat → ClassId) (X : va_W) (B : State → Prop) (hcl : Bcl (AS K ad X) B) (S : Nat → Nat) (hE : HC S K sh) (e1 : Nat) (he1 : txE S e1 = true) (G : Mem) (L : MemL) (O : MemO)  {Gz : Mem} {Oz : MemO} (hf : f_X11_keepText G O e1 = some (Gz, Oz)) : Met l yX11_keepText (wsU yX11_keepText cX11_keepText 2 none) (rmX 1 0 0) (va_Pc [.ref (ad 100), .ref (ad e1)] (PS D K sh ad cy X B G L O)) (QV (AS K ad X) (PH D K sh ad cy X Gz L Oz)) 0 0 (AS K ad X) := by
  refine s_met (by decide) (Nat.le_of_ble_eq_true rfl) ?_
  intro p e s m args below meth c ls H locs E hK hBs hnm hI hl
  have hl : lv_has ls 2 [(0, .ref (ad 100)), (1, .ref (ad e1))] := hl
  have E : Cx p s m args meth c RX11 cX11_keepText 2 none := E
  obtain ⟨hx, hb, hr, hml, hown, hu, hlocks⟩ := id E
  rw [f_X11_keepText] at hf
  refine lv_aload_n hx hb dX11_keepText_0 rfl (lv_at hl 1 rfl) ?_
  refine lv_ifnull hx hb dX11_keepText_1 ?_
  refine lv_aload_n hx hb dX11_keepText_4 rfl (lv_at hl 0 rfl) ?_
  refine s_get (v := .int (G 100 7)) hx hb hu inU11 hown hK hI (mE hE.1 eC_100) rfl 7 (by decide) u2_182 (fun _ h => h) rfl rfl dX11_keepText_5 ?_
  refine lv_bipush (v := 6) hx hb dX11_keepText_8 (by decide) ?_
  refine lv_icmp_ge (tgt := 33) hx hb dX11_keepText_10 (by decide) (fun c1 => ?_) (fun c1 => ?_)
  · have hf := ite_t c1 hf
    cases hf
    exact s_vret hx hb hr hI.2.2 hI.1 hlocks dX11_keepText_33
  · have hf := ite_f c1 hf
    refine lv_aload_n hx hb dX11_keepText_13 rfl (lv_at hl 0 rfl) ?_
    refine s_get (v := .ref (ad 117)) hx hb hu inU11 hown hK hI (mE hE.1 eC_100) rfl 6 (by decide) u2_181 (fun _ h => h) rfl rfl dX11_keepText_14 ?_
    refine lv_aload_n hx hb dX11_keepText_17 rfl (lv_at hl 0 rfl) ?_
    refine s_get (v := .int (G 100 7)) hx hb hu inU11 hown hK hI (mE hE.1 eC_100) rfl 7 (by decide) u2_182 (fun _ h => h) rfl rfl dX11_keepText_18 ?_
    refine lv_aload_n hx hb dX11_keepText_21 rfl (lv_at hl 1 rfl) ?_
    obtain ⟨h2, hf⟩ := chk_i hf
    obtain ⟨O3, eO3, hf⟩ := bnd_i hf
    refine s_ast (t := 7) (t0 := 6) (t2 := 0) (N := 0) E (by decide) rfl hK hI (mE hE.1 eC_117) (hE.2.2 _ he1).1 rfl (inB_i h2) eO3 dX11_keepText_22 (fun H locs hI => ?_)
    refine lv_aload_n hx hb dX11_keepText_23 rfl (lv_at hl 0 rfl) ?_
    refine lv_dup hx hb dX11_keepText_24 rfl ?_
    refine s_get (v := .int (G 100 7)) hx hb hu inU11 hown hK hI (mE hE.1 eC_100) rfl 7 (by decide) u2_182 (fun _ h => h) rfl rfl dX11_keepText_25 ?_
    refine lv_iconst (v := 1) hx hb dX11_keepText_28 (by decide) ?_
    refine lv_iadd hx hb dX11_keepText_29 ?_
    obtain ⟨G4, eG4, hf⟩ := bnd_i hf
    refine s_put (ty := .int) hx hb hu inU11 tyX11_ok nmX11 hown hK hI (mE hE.1 eC_100) rfl 7 (by decide) u2_182 (fun _ h => h) rfl rfl (tyX11_ok 7 (by decide)) rfl rfl eG4 dX11_keepText_30 (fun H locs hI => ?_)
    cases hf
    exact s_vret hx hb hr hI.2.2 hI.1 hlocks dX11_keepText_33
/-- the classes under Singer may stand where a Singer is asked -/
def CaS (U : State) : Prop := ∀ C ∈ [RX0, RX2, RX3, RX8, RX10], va_Nw (.castable C RX7) U
section SGA
variable {p : Program} {l : Launch} {e : Env} {R : Room} {s : State} {m : MethodId} {args : Array Value} {below : List Frame} {meth : Method} {c : Code} {H H0 : Heap} {locs : List Loc} {cells slots : Nat} {Q : State → Prop}
variable {cc : ByteArray} {pc : Nat} {ls : Array Slot} {rest st0 : List Value} {D : va_G} {K : List Nat} {sh : Nat → Ent} {ad : Nat → Nat} {cy : Nat → ClassId} {X : va_W} {A : Nat → Prop} {B : State → Prop} {G G1 : Mem} {L L1 : MemL} {O O1 : MemO} {S : Nat → Nat} {k n nL : Nat} {fl : List Nat} {own : String} {rt : Option FieldType}
theorem s_astSg (hca : CaS s) (E : Cx p s m args meth c own cc nL rt) (hK : KS D cy s) (hI : IS D K sh ad cy X A H0 H locs G L O) (hE : k ∈ K ∧ sh k = (6, n, fl)) {a : Nat} (hE2 : SgH S K sh a) {i : Int32} (hin : vp_in i n) {O1 : MemO} (hO : O1 = up2 O k i.toNatClampNeg (some a)) (hdg : decode cc pc = .ok (.aastore, 1))
    (kk : ∀ (H : Heap) (locs : List Loc), IS D K sh ad cy X A H0 H locs G L O1 → W p l e R s m args below meth c H locs cells slots Q (F0 m (pc + 1) ls rest)) : W p l e R s m args below meth c H locs cells slots Q (F0 m pc ls (.ref (ad a) :: .int i :: .ref (ad k) :: rest)) := by
  obtain ⟨hx, hb, hr, hml, hown, hu, hlocks⟩ := E
  obtain ⟨hP, hD, hS⟩ := hI
  obtain ⟨q, hq, hKq⟩ := wS_at (sh := sh) (ad := ad) (cy := cy) (G := G) (L := L) (O := O) (X := X) hE.1
  obtain ⟨q2, hq2, -⟩ := wS_at (sh := sh) (ad := ad) (cy := cy) (G := G) (L := L) (O := O) (X := X) hE2.1.1
  rw [entE_r (by decide) hE.2] at hq
  rw [entE_o hE2.1.2] at hq2
  have hany : va_Any RX7 s H (ad a) := by
    rcases sg_cases hE2.2 with z | z | z | z | z | z <;> rw [z] at hq2
    · exact va_rAny hK.1 hP hq2 rfl (vb_asgC (hca RX0 (by decide)))
    · exact va_rAny hK.1 hP hq2 rfl (vb_asgC (hca RX2 (by decide)))
    · exact va_rAny hK.1 hP hq2 rfl (vb_asgC (hca RX3 (by decide)))
    · refine va_rAny hK.1 hP hq2 rfl (fun comp c0 h1 h2 => ?_)
      have e1 : comp = c0 := Option.some.inj (h1.symm.trans h2)
      have h3 := (hK.1.1 7 _ rfl).2
      have e2 : c0 = D.1 7 := Option.some.inj (h2.symm.trans h3.1)
      rw [e1, e2]
      exact va_assign h3
    · exact va_rAny hK.1 hP hq2 rfl (vb_asgC (hca RX8 (by decide)))
    · exact va_rAny hK.1 hP hq2 rfl (vb_asgC (hca RX10 (by decide)))
  subst hO
  refine va_astqM (E := RX7) hx hb hK.1 hP hD hS q 5 hq rfl hany hin hdg (fun H1 locs1 hP1 hD1 hS1 => ?_)
  have h1 : (ad k, (Sum.inl (cy 6, (n, .inr (.inr (.inr (.inr (va_up (fun j => (O k j).map ad) i.toNatClampNeg (some (ad a)))))))) : va_E)) = (ad k, entE k (sh k) ad cy G L (up2 O k i.toNatClampNeg (some a))) := by
    rw [entE_r (by decide) hE.2, up2_a]
    congr 7
    refine congrArg Sum.inr (funext fun j => ?_)
    unfold va_up
    show (if j = i.toNatClampNeg then some (ad a) else Option.map ad (O k j)) = Option.map ad (if j = i.toNatClampNeg then some a else O k j)
    by_cases hj : j = i.toNatClampNeg
    · rw [if_pos hj, if_pos hj]; rfl
    · rw [if_neg hj, if_neg hj]
  rw [h1, wS_set hD hKq (fun _ _ => rfl) (fun _ _ => rfl) (fun j hj => up2_n O _ _ hj)] at hP1
  exact kk H1 locs1 ⟨hP1, wS_D hD, hS1⟩
end SGA
def kcl (x : Int32) : Nat := if x = 1 then 8 else if x = 2 then 10 else if x = 3 then 3 else if x = 4 then 2 else if x = 5 then 0 else 7
def upS (S : Nat → Nat) (e c : Nat) : Nat → Nat := fun b => if b = e then c else S b
theorem upS_e {S : Nat → Nat} {e c : Nat} : upS S e c e = c := if_pos rfl
theorem upS_n {S : Nat → Nat} {e c b : Nat} (h : b ≠ e) : upS S e c b = S b := if_neg h
theorem sg_kcl {S : Nat → Nat} {e : Nat} {x : Int32} (h : 1000 ≤ e ∧ e < 2000) : sgE (upS S e (kcl x)) e = true := by
  unfold sgE
  rw [upS_e]
  refine decide_eq_true ⟨h.1, h.2, ?_⟩
  unfold kcl
  (repeat' split) <;> simp
noncomputable def j_X11_singer_72 (S : Nat → Nat) (x1 : Int32) (x2 : Int32) (x3 : Int32)  (G : Mem) (O : MemO) : Option ((Nat → Nat) × Mem × MemO × Nat × Int32) := some (S, G, O, 0, (-2))
noncomputable def f_X11_singer (en : Nat) (G : Mem) (O : MemO) (S : Nat → Nat) (x1 : Int32) (x2 : Int32) (x3 : Int32) : Option ((Nat → Nat) × Mem × MemO × Nat × Int32) := bnd (x2 / 1000) (fun x4_1 => bnd ((x2 / 100) - (x2 / 100) / 10 * 10) (fun x5_2 => bnd (x2 - x2 / 100 * 100) (fun x6_3 => (if (f_X11_outside x1 6) = 0 then (if x2 < 0 then j_X11_singer_72 S x1 x2 x3 G O else (if (f_X11_outside x4_1 4) = 0 then (if x5_2 < 1 then j_X11_singer_72 S x1 x2 x3 G O else (if x6_3 < 2 then j_X11_singer_72 S x1 x2 x3 G O else (if 40 < x6_3 then j_X11_singer_72 S x1 x2 x3 G O else (if (f_X11_outside x3 10) = 0 then (if (G 100 4) < 10 then bndP (f_X11_newSinger en G O x1 x6_3 x5_2 x3) (fun G12 O13 => chk (inB (G 100 4) 10) (bnd (up2 O13 113 (G 100 4).toNatClampNeg (some en)) (fun O17 => chk (inB (G12 100 4) 10) (bnd (up2 G12 106 (G12 100 4).toNatClampNeg x4_1) (fun G19 => bnd (up2 G19 100 4 ((G19 100 4) + 1)) (fun G20 => some (upS S en (kcl x1), G20, O17, 1, ((G20 100 4) - 1)))))))) else some (S, G, O, 0, (-4))) else j_X11_singer_72 S x1 x2 x3 G O)))) else j_X11_singer_72 S x1 x2 x3 G O)) else j_X11_singer_72 S x1 x2 x3 G O))))
theorem kyX11_singer : Ky yX11_singer cX11_singer 7 (some FieldType.int) 3 := ⟨u2_225, u1_1, by decide, by decide, by decide, by decide +kernel⟩
set_option maxHeartbeats 4000000 in
set_option maxRecDepth 100000 in
theorem c_X11_singer (l : Launch) (D : va_G) (K : List Nat) (sh : Nat → Ent) (ad : Nat → Nat) (cy : Nat → ClassId) (X : va_W) (B : State → Prop) (sz : Nat) (hclA : Bcl (AZ K ad X sz) B) (hCl : Cl K sh)  (S : Nat → Nat) (G : Mem) (L : MemL) (O : MemO) (x1 : Int32) (x2 : Int32) (x3 : Int32) {Gz : Mem} {Oz : MemO} {Sz : Nat → Nat} {nz : Nat} {vz : Int32} (hCa : ∀ U : State, B U → CaS U) (en : Nat) (hen : 1000 ≤ en ∧ en < 2000) (hn_en : en ∉ K) (hE : HC S K sh) (hsh_en : sh en = (0, kcl x1, [0, 0, 0])) (hOR : ORf K O) (hf : f_X11_singer en G O S x1 x2 x3 = some (Sz, Gz, Oz, nz, vz)) : Met l yX11_singer (wsU yX11_singer cX11_singer 7 (some FieldType.int)) (rmX 5 1 3) (va_Pc [.ref (ad 100), .int x1, .int x2, .int x3] (PZ sz D K sh ad cy X B G L O)) (QZ D K ad cy X (AZ K ad X sz) (if nz = 1 then K ++ [en] else K) (fun z => z = sh) Gz L Oz (fun _ => some (.int vz))) 1 3 (AZ K ad X sz) := by
  refine s_metZ (by decide) (Nat.le_of_ble_eq_true rfl) ?_
  intro p e s m args below meth c ls H locs A0 eA0 hA E hK hBs hnm hI hl
  rw [← eA0] at hclA
  rw [← eA0]
  have hsub : ∀ b ∈ K, b ∈ K := fun b hb => hb
  have hcl : Bcl (AS K ad X) B := hclA.mono (AS_D hI.2.1)
  have had : ∀ b ∈ K, ad b = ad b := fun b hb => rfl
  have hl : lv_has ls 7 [(0, .ref (ad 100)), (1, .int x1), (2, .int x2), (3, .int x3)] := hl
  have E : Cx p s m args meth c RX11 cX11_singer 7 (some FieldType.int) := E
  obtain ⟨hx, hb, hr, hml, hown, hu, hlocks⟩ := id E
  have B72 : ∀    (G : Mem) (O : MemO) (H : Heap) (locs : List Loc) (ls : Array Slot), lv_has ls 7 [] → IS D K sh ad cy X A0 s.heap H locs G L O → j_X11_singer_72 S x1 x2 x3 G O = some (Sz, Gz, Oz, nz, vz) → W p l e (rmX 5 1 3) s m args below meth c H locs 0 0 (MQ below (QZ D K ad cy X A0 (if nz = 1 then K ++ [en] else K) (fun z => z = sh) Gz L Oz (fun _ => some (.int vz))) args s 1 3 A0) (F0 m 72 ls []) := by
    intro  G O H locs ls hl hI hf
    rw [j_X11_singer_72] at hf
    refine lv_bipush (v := (-2)) hx hb dX11_singer_72 (by decide) ?_
    cases hf
    refine W.widen (k := 1) (n := 3) (by decide) (by decide) ?_
    exact s_iretZ E had rfl rfl hI dX11_singer_74
  rw [f_X11_singer] at hf
  refine lv_iload_n hx hb dX11_singer_0 rfl (lv_at hl 2 rfl) ?_
  refine lv_sipush (v := 1000) hx hb dX11_singer_1 (by decide) ?_
  refine lv_idiv hx hb dX11_singer_4 (by decide) ?_
  obtain ⟨x4_1, ex4_1, hf⟩ := bnd_i hf
  refine s_nmI ex4_1 ?_
  refine lv_istore (lv' := [(4, .int x4_1), (0, .ref (ad 100)), (1, .int x1), (2, .int x2), (3, .int x3)]) hx hb dX11_singer_5 hl (by decide) rfl (fun ls hl => ?_)
  refine lv_iload_n hx hb dX11_singer_7 rfl (lv_at hl 3 rfl) ?_
  refine lv_bipush (v := 100) hx hb dX11_singer_8 (by decide) ?_
  refine lv_idiv hx hb dX11_singer_10 (by decide) ?_
  refine lv_bipush (v := 10) hx hb dX11_singer_11 (by decide) ?_
  refine lv_irem hx hb dX11_singer_13 (by decide) ?_
  obtain ⟨x5_2, ex5_2, hf⟩ := bnd_i hf
  refine s_nmI ex5_2 ?_
  refine lv_istore (lv' := [(5, .int x5_2), (4, .int x4_1), (0, .ref (ad 100)), (1, .int x1), (2, .int x2), (3, .int x3)]) hx hb dX11_singer_14 hl (by decide) rfl (fun ls hl => ?_)
  refine lv_iload_n hx hb dX11_singer_16 rfl (lv_at hl 4 rfl) ?_
  refine lv_bipush (v := 100) hx hb dX11_singer_17 (by decide) ?_
  refine lv_irem hx hb dX11_singer_19 (by decide) ?_
  obtain ⟨x6_3, ex6_3, hf⟩ := bnd_i hf
  refine s_nmI ex6_3 ?_
  refine lv_istore (lv' := [(6, .int x6_3), (5, .int x5_2), (4, .int x4_1), (0, .ref (ad 100)), (1, .int x1), (2, .int x2), (3, .int x3)]) hx hb dX11_singer_20 hl (by decide) rfl (fun ls hl => ?_)
  refine lv_iload_n hx hb dX11_singer_22 rfl (lv_at hl 4 rfl) ?_
  refine lv_bipush (v := 6) hx hb dX11_singer_23 (by decide) ?_
  refine s_cSP (np := 2) (rest := []) E (c_X11_outside l x1 6 rfl) kyX11_outside u2_219 u2_220 (by decide) rfl hl.1 rfl (Nat.le_of_ble_eq_true rfl) ⟨by decide, by decide⟩ dX11_singer_25 ?_
  refine lv_if_ne (tgt := 72) hx hb dX11_singer_28 (by decide) (fun c4 => ?_) (fun c4 => ?_)
  · have hf := ite_f c4 hf
    exact B72    G O H locs ls (lv_sub hl [] rfl) hI hf
  · have hf := ite_t c4 hf
    refine lv_iload_n hx hb dX11_singer_31 rfl (lv_at hl 5 rfl) ?_
    refine lv_if_lt (tgt := 72) hx hb dX11_singer_32 (by decide) (fun c5 => ?_) (fun c5 => ?_)
    · have hf := ite_t c5 hf
      exact B72    G O H locs ls (lv_sub hl [] rfl) hI hf
    · have hf := ite_f c5 hf
      refine lv_iload hx hb dX11_singer_35 (lv_at hl 2 rfl) ?_
      refine lv_iconst (v := 4) hx hb dX11_singer_37 (by decide) ?_
      refine s_cSP (np := 2) (rest := []) E (c_X11_outside l x4_1 4 rfl) kyX11_outside u2_219 u2_220 (by decide) rfl hl.1 rfl (Nat.le_of_ble_eq_true rfl) ⟨by decide, by decide⟩ dX11_singer_38 ?_
      refine lv_if_ne (tgt := 72) hx hb dX11_singer_41 (by decide) (fun c6 => ?_) (fun c6 => ?_)
      · have hf := ite_f c6 hf
        exact B72    G O H locs ls (lv_sub hl [] rfl) hI hf
      · have hf := ite_t c6 hf
        refine lv_iload hx hb dX11_singer_44 (lv_at hl 1 rfl) ?_
        refine lv_iconst (v := 1) hx hb dX11_singer_46 (by decide) ?_
        refine lv_icmp_lt (tgt := 72) hx hb dX11_singer_47 (by decide) (fun c7 => ?_) (fun c7 => ?_)
        · have hf := ite_t c7 hf
          exact B72    G O H locs ls (lv_sub hl [] rfl) hI hf
        · have hf := ite_f c7 hf
          refine lv_iload hx hb dX11_singer_50 (lv_at hl 0 rfl) ?_
          refine lv_iconst (v := 2) hx hb dX11_singer_52 (by decide) ?_
          refine lv_icmp_lt (tgt := 72) hx hb dX11_singer_53 (by decide) (fun c8 => ?_) (fun c8 => ?_)
          · have hf := ite_t c8 hf
            exact B72    G O H locs ls (lv_sub hl [] rfl) hI hf
          · have hf := ite_f c8 hf
            refine lv_iload hx hb dX11_singer_56 (lv_at hl 0 rfl) ?_
            refine lv_bipush (v := 40) hx hb dX11_singer_58 (by decide) ?_
            refine lv_icmp_gt (tgt := 72) hx hb dX11_singer_60 (by decide) (fun c9 => ?_) (fun c9 => ?_)
            · have hf := ite_t c9 hf
              exact B72    G O H locs ls (lv_sub hl [] rfl) hI hf
            · have hf := ite_f c9 hf
              refine lv_iload_n hx hb dX11_singer_63 rfl (lv_at hl 6 rfl) ?_
              refine lv_bipush (v := 10) hx hb dX11_singer_64 (by decide) ?_
              refine s_cSP (np := 2) (rest := []) E (c_X11_outside l x3 10 rfl) kyX11_outside u2_219 u2_220 (by decide) rfl hl.1 rfl (Nat.le_of_ble_eq_true rfl) ⟨by decide, by decide⟩ dX11_singer_66 ?_
              refine lv_if_eq (tgt := 75) hx hb dX11_singer_69 (by decide) (fun c10 => ?_) (fun c10 => ?_)
              · have hf := ite_t c10 hf
                refine lv_aload_n hx hb dX11_singer_75 rfl (lv_at hl 3 rfl) ?_
                refine s_get (v := .int (G 100 4)) hx hb hu inU11 hown hK hI (mE hE.1 eC_100) rfl 4 (by decide) u2_179 (fun _ h => h) rfl rfl dX11_singer_76 ?_
                refine lv_bipush (v := 10) hx hb dX11_singer_79 (by decide) ?_
                refine lv_icmp_lt (tgt := 87) hx hb dX11_singer_81 (by decide) (fun c11 => ?_) (fun c11 => ?_)
                · have hf := ite_t c11 hf
                  refine lv_aload_n hx hb dX11_singer_87 rfl (lv_at hl 3 rfl) ?_
                  refine s_get (v := .ref (ad 113)) hx hb hu inU11 hown hK hI (mE hE.1 eC_100) rfl 3 (by decide) u2_178 (fun _ h => h) rfl rfl dX11_singer_88 ?_
                  refine lv_aload_n hx hb dX11_singer_91 rfl (lv_at hl 3 rfl) ?_
                  refine s_get (v := .int (G 100 4)) hx hb hu inU11 hown hK hI (mE hE.1 eC_100) rfl 4 (by decide) u2_179 (fun _ h => h) rfl rfl dX11_singer_92 ?_
                  refine lv_iload_n hx hb dX11_singer_95 rfl (lv_at hl 4 rfl) ?_
                  refine lv_iload hx hb dX11_singer_96 (lv_at hl 0 rfl) ?_
                  refine lv_iload hx hb dX11_singer_98 (lv_at hl 1 rfl) ?_
                  refine lv_iload_n hx hb dX11_singer_100 rfl (lv_at hl 6 rfl) ?_
                  obtain ⟨G12, O13, h14, hf⟩ := bndP_i hf
                  refine s_afZ hA hI (s_runSz (rest := [.int (G 100 4), .ref (ad 113)]) (np := 4) E hK hI (s_B hclA hBs hI) hclA.2 (c_X11_newSinger l D K sh ad cy X B H.size (hclA.mono (AZ_in hI hA)) hCl (upS S en (kcl x1)) en (hsh_en.trans (by rw [upS_e])) (sg_kcl hen) hn_en G L O x1 x6_3 x5_2 x3 (fun h => by rw [upS_e, h]; rfl) (fun h => by rw [upS_e, h]; rfl) (fun h => by rw [upS_e, h]; rfl) (fun h => by rw [upS_e, h]; rfl) (fun h => by rw [upS_e, h]; rfl) (fun h1 h2 h3 h4 h5 => by rw [upS_e]; simp [kcl, h1, h2, h3, h4, h5]) hOR h14) kyX11_newSinger u2_226 u2_227 (by decide) rfl hl.1 rfl (Nat.le_of_ble_eq_true rfl) ⟨by decide, by decide⟩ dX11_singer_101) (fun ad15 sh1 H locs had15 hHy hI => ?_)
                  have hHy := hHy.symm
                  subst hHy
                  change W p l e _ s m _ below meth c _ _ _ _ _ (F0 m 104 ls [.ref (ad15 en), .int (G 100 4), .ref (ad 113)])
                  obtain ⟨K15, eK15⟩ : ∃ z, z = (K ++ [en]) := ⟨_, rfl⟩
                  rw [← eK15] at hI
                  have hin15 : ∀ b ∈ K, b ∈ K15 := fun b hb => by rw [eK15]; exact (List.mem_append_left _ hb)
                  have hk15_0 : en ∈ K15 := by rw [eK15]; exact (List.mem_append_right _ (List.mem_singleton.mpr rfl))
                  have hr15_0 := had15 _ ((mE hE.1 eC_113)).1
                  have hr15_1 := had15 _ ((mE hE.1 eC_100)).1
                  have had : ∀ b ∈ K, ad15 b = ad b := fun b hb => (had15 b (hsub b hb)).trans (had b hb)
                  have hsub : ∀ b ∈ K, b ∈ K15 := fun b hb => hin15 b (hsub b hb)
                  have hcl : Bcl (AS K15 ad15 X) B := hclA.mono (AS_D hI.2.1)
                  have hE : HC S K15 sh := hE.mono hin15
                  have hm_en := hk15_0
                  have hCl : Cl K15 sh := by rw [eK15]; exact (Cl.push hCl (by rw [hsh_en]; simp))
                  rw [← hr15_1] at hl
                  rw [← hr15_0]
                  obtain ⟨h16, hf⟩ := chk_i hf
                  obtain ⟨O17, eO17, hf⟩ := bnd_i hf
                  refine s_astSg (S := upS S en (kcl x1)) (hCa s hBs) E hK hI (mE hE.1 eC_113) ⟨⟨hm_en, hsh_en.trans (by rw [upS_e])⟩, sg_kcl hen⟩ (inB_i h16) eO17 dX11_singer_104 (fun H locs hI => ?_)
                  refine lv_aload_n hx hb dX11_singer_105 rfl (lv_at hl 3 rfl) ?_
                  refine s_get (v := .ref (ad15 101)) hx hb hu inU11 hown hK hI (mE hE.1 eC_100) rfl 0 (by decide) u2_175 (fun _ h => h) rfl rfl dX11_singer_106 ?_
                  refine s_get (v := .ref (ad15 106)) hx hb hu inU4 hown hK hI (mE hE.1 eC_101) rfl 4 (by decide) u1_53 (fun _ h => h) rfl rfl dX11_singer_109 ?_
                  refine lv_aload_n hx hb dX11_singer_112 rfl (lv_at hl 3 rfl) ?_
                  refine s_get (v := .int (G12 100 4)) hx hb hu inU11 hown hK hI (mE hE.1 eC_100) rfl 4 (by decide) u2_179 (fun _ h => h) rfl rfl dX11_singer_113 ?_
                  refine lv_iload hx hb dX11_singer_116 (lv_at hl 2 rfl) ?_
                  obtain ⟨h18, hf⟩ := chk_i hf
                  obtain ⟨G19, eG19, hf⟩ := bnd_i hf
                  refine s_ist hx hb hK hI (mE hE.1 eC_106) (inB_i h18) eG19 dX11_singer_118 (fun H locs hI => ?_)
                  refine lv_aload_n hx hb dX11_singer_119 rfl (lv_at hl 3 rfl) ?_
                  refine lv_dup hx hb dX11_singer_120 rfl ?_
                  refine s_get (v := .int (G19 100 4)) hx hb hu inU11 hown hK hI (mE hE.1 eC_100) rfl 4 (by decide) u2_179 (fun _ h => h) rfl rfl dX11_singer_121 ?_
                  refine lv_iconst (v := 1) hx hb dX11_singer_124 (by decide) ?_
                  refine lv_iadd hx hb dX11_singer_125 ?_
                  obtain ⟨G20, eG20, hf⟩ := bnd_i hf
                  refine s_put (ty := .int) hx hb hu inU11 tyX11_ok nmX11 hown hK hI (mE hE.1 eC_100) rfl 4 (by decide) u2_179 (fun _ h => h) rfl rfl (tyX11_ok 4 (by decide)) rfl rfl eG20 dX11_singer_126 (fun H locs hI => ?_)
                  refine lv_aload_n hx hb dX11_singer_129 rfl (lv_at hl 3 rfl) ?_
                  refine s_get (v := .int (G20 100 4)) hx hb hu inU11 hown hK hI (mE hE.1 eC_100) rfl 4 (by decide) u2_179 (fun _ h => h) rfl rfl dX11_singer_130 ?_
                  refine lv_iconst (v := 1) hx hb dX11_singer_133 (by decide) ?_
                  refine lv_isub hx hb dX11_singer_134 ?_
                  cases hf
                  subst eK15
                  refine W.widen (k := 1) (n := 3) (by decide) (by decide) ?_
                  exact s_iretZ E had rfl rfl hI dX11_singer_135
                · have hf := ite_f c11 hf
                  refine lv_bipush (v := (-4)) hx hb dX11_singer_84 (by decide) ?_
                  cases hf
                  refine W.widen (k := 1) (n := 3) (by decide) (by decide) ?_
                  exact s_iretZ E had rfl rfl hI dX11_singer_86
              · have hf := ite_f c10 hf
                exact B72    G O H locs ls (lv_sub hl [] rfl) hI hf
