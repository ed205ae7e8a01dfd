def shSg (S : Nat → Nat) (sh : Nat → Ent) : Nat → Ent := fun b => if 1000 ≤ b ∧ b < 2000 then (0, S b, [0, 0, 0]) else sh b
theorem shSg_up {S : Nat → Nat} {sh : Nat → Ent} {e c b : Nat} (h : b ≠ e) : shSg (upS S e c) sh b = shSg S sh b := by
  unfold shSg
  rw [upS_n h]
theorem shSg_e {S : Nat → Nat} {sh : Nat → Ent} {e c : Nat} (h : 1000 ≤ e ∧ e < 2000) : shSg (upS S e c) sh e = (0, c, [0, 0, 0]) := by
  unfold shSg
  rw [if_pos h, upS_e]
def enB (z en : Nat) (N : List Nat) : Bool := decide (1000 + z ≤ en ∧ en < 2000 ∧ en ∉ N)
def SgI (K N : List Nat) (sh : Nat → Ent) (ad0 ad : Nat → Nat) (S : Nat → Nat) (O : MemO) : Prop := (∀ b ∈ K, ad b = ad0 b) ∧ HC S (K ++ N) (shSg S sh) ∧ Cl (K ++ N) (shSg S sh) ∧ ORf (K ++ N) O
theorem app_if {K N : List Nat} {e n : Nat} : (K ++ if n = 1 then N ++ [e] else N) = if n = 1 then (K ++ N) ++ [e] else K ++ N := by
  split
  · rw [List.append_assoc]
  · rfl
theorem HC_up {S : Nat → Nat} {K : List Nat} {sh : Nat → Ent} {e c : Nat} (h : HC S K (shSg S sh)) (hn : e ∉ K) (he : 1000 ≤ e ∧ e < 2000) : HC S K (shSg (upS S e c) sh) := by
  refine ⟨fun q hq => ?_, fun b hb => ?_, fun b hb => ?_⟩
  · have h1 := h.1 q hq
    rw [shSg_up (fun hb => hn (by rw [← hb]; exact h1.1))]
    exact h1
  · have h1 := h.2.1 b hb
    rw [shSg_up (fun hb => hn (by rw [← hb]; exact h1.1))]
    exact h1
  · obtain ⟨h1, h2, h3, h4⟩ := h.2.2 b hb
    have hx := of_decide_eq_true hb
    refine ⟨?_, ?_, ?_, ?_⟩
    · rw [shSg_up (by omega)]; exact h1
    · rw [shSg_up (by omega)]; exact h2
    · rw [shSg_up (by omega)]; exact h3
    · rw [shSg_up (by omega)]; exact h4
theorem Cl_up {S : Nat → Nat} {K : List Nat} {sh : Nat → Ent} {e c : Nat} (h : Cl K (shSg S sh)) (hn : e ∉ K) : Cl K (shSg (upS S e c) sh) := by
  intro j hj r hr
  rw [shSg_up (fun hb => hn (by rw [← hb]; exact hj))] at hr
  exact h j hj r hr
theorem HC_new {S : Nat → Nat} {K : List Nat} {sh : Nat → Ent} {e : Nat} {x : Int32} (h : HC S K (shSg (upS S e (kcl x)) sh)) (he : 1000 ≤ e ∧ e < 2000) : HC (upS S e (kcl x)) (K ++ [e]) (shSg (upS S e (kcl x)) sh) := by
  have hin : ∀ b ∈ K, b ∈ K ++ [e] := fun b hb => List.mem_append_left _ hb
  refine ⟨fun q hq => ⟨hin _ (h.1 q hq).1, (h.1 q hq).2⟩, fun b hb => ?_, fun b hb => ?_⟩
  · by_cases hbe : b = e
    · subst hbe
      exact ⟨List.mem_append_right _ (List.mem_singleton.mpr rfl), by rw [shSg_e he, upS_e]⟩
    · have hb2 : sgE S b = true := by unfold sgE at hb ⊢; rw [upS_n hbe] at hb; exact hb
      rw [upS_n hbe]
      exact ⟨hin _ (h.2.1 b hb2).1, (h.2.1 b hb2).2⟩
  · have hx := of_decide_eq_true hb
    have hb2 : txE S b = true := by unfold txE at hb ⊢; rw [upS_n (by omega)] at hb; exact hb
    obtain ⟨h1, h2, h3, h4⟩ := h.2.2 b hb2
    rw [upS_n (by omega)]
    exact ⟨⟨hin _ h1.1, h1.2⟩, ⟨hin _ h2.1, h2.2⟩, ⟨hin _ h3.1, h3.2⟩, ⟨hin _ h4.1, h4.2⟩⟩
def bndP5 {α β γ δ ε ζ : Type} (o : Option (α × β × γ × δ × ε)) (f : α → β → γ → δ → ε → Option ζ) : Option ζ := match o with
  | some (a, b, c, d, e) => f a b c d e
  | none => none
theorem bndP5_i {α β γ δ ε ζ : Type} {o : Option (α × β × γ × δ × ε)} {f : α → β → γ → δ → ε → Option ζ} {r : ζ} (h : bndP5 o f = some r) : ∃ a b c d e, o = some (a, b, c, d, e) ∧ f a b c d e = some r := by
  match o, h with
  | some (a, b, c, d, e), h => exact ⟨a, b, c, d, e, rfl, h⟩
theorem OR_newSinger {K : List Nat} {G G1 : Mem} {O O1 : MemO} {en : Nat} {x0 x1 x2 x3 : Int32} (hOR : ORf K O) (h : f_X11_newSinger en G O x0 x1 x2 x3 = some (G1, O1)) : ORf K O1 := by
  have fin : ∀ {g : Mem → Option Mem}, (bnd (zr 0 G en) fun G2 => bnd (zr none O en) fun O3 => bndO (g G2) fun G5 => some (G5, O3)) = some (G1, O1) → ORf K O1 := by
    intro g hg
    obtain ⟨G2, e2, hg⟩ := bnd_i hg
    obtain ⟨O3, e3, hg⟩ := bnd_i hg
    obtain ⟨G5, _, hg⟩ := bndO_i hg
    cases hg
    rw [e3]
    exact hOR.zr en
  unfold f_X11_newSinger at h
  split at h
  · exact fin h
  split at h
  · exact fin h
  split at h
  · exact fin h
  split at h
  · exact fin h
  split at h
  · exact fin h
  exact fin h
theorem singer_cases {S Sz : Nat → Nat} {G Gz : Mem} {O Oz : MemO} {en nz : Nat} {x1 x2 x3 vz : Int32} (hf : f_X11_singer en G O S x1 x2 x3 = some (Sz, Gz, Oz, nz, vz)) : (nz = 0 ∧ Sz = S ∧ Oz = O) ∨ (nz = 1 ∧ Sz = upS S en (kcl x1) ∧ (∀ K2 : List Nat, ORf K2 O → en ∈ K2 → ORf K2 Oz)) := by
  have j72 : j_X11_singer_72 S x1 x2 x3 G O = some (Sz, Gz, Oz, nz, vz) → (nz = 0 ∧ Sz = S ∧ Oz = O) := by
    intro h
    unfold j_X11_singer_72 at h
    cases h
    exact ⟨rfl, rfl, rfl⟩
  unfold f_X11_singer at hf
  obtain ⟨a1, _, hf⟩ := bnd_i hf
  obtain ⟨a2, _, hf⟩ := bnd_i hf
  obtain ⟨a3, _, hf⟩ := bnd_i hf
  split at hf
  case isFalse => exact Or.inl (j72 hf)
  split at hf
  case isTrue => exact Or.inl (j72 hf)
  split at hf
  case isFalse => exact Or.inl (j72 hf)
  split at hf
  case isTrue => exact Or.inl (j72 hf)
  split at hf
  case isTrue => exact Or.inl (j72 hf)
  split at hf
  case isTrue => exact Or.inl (j72 hf)
  split at hf
  case isFalse => exact Or.inl (j72 hf)
  split at hf
  case isFalse =>
    cases hf
    exact Or.inl ⟨rfl, rfl, rfl⟩
  obtain ⟨G12, O13, h12, hf⟩ := bndP_i hf
  replace hf := (chk_i hf).2
  obtain ⟨O17, e17, hf⟩ := bnd_i hf
  replace hf := (chk_i hf).2
  obtain ⟨G19, _, hf⟩ := bnd_i hf
  obtain ⟨G20, _, hf⟩ := bnd_i hf
  cases hf
  refine Or.inr ⟨rfl, rfl, fun K2 h1 h2 => ?_⟩
  rw [e17]
  exact (OR_newSinger h1 h12).up h2
theorem SgI_step {K N : List Nat} {sh : Nat → Ent} {ad0 ad1 ad2 : Nat → Nat} {S Sz : Nat → Nat} {G Gz : Mem} {O Oz : MemO} {en nz : Nat} {x1 x2 x3 vz : Int32} (h : SgI K N sh ad0 ad1 S O) (he : 1000 ≤ en ∧ en < 2000) (hn : en ∉ K ++ N) (had : ∀ k ∈ K ++ N, ad2 k = ad1 k) (hf : f_X11_singer en G O S x1 x2 x3 = some (Sz, Gz, Oz, nz, vz)) : SgI K (if nz = 1 then N ++ [en] else N) sh ad0 ad2 Sz Oz ∧ ∀ k ∈ K ++ (if nz = 1 then N ++ [en] else N), shSg Sz sh k = shSg (upS S en (kcl x1)) sh k := by
  have key := singer_cases hf
  rw [app_if]
  rcases key with ⟨h1, h2, h3⟩ | ⟨h1, h2, h3⟩
  · subst h1 h2 h3
    rw [if_neg (by decide), if_neg (by decide)]
    exact ⟨⟨fun b hb => (had b (List.mem_append_left _ hb)).trans (h.1 b hb), h.2⟩, fun k hk => (shSg_up (fun hb => hn (by rw [← hb]; exact hk))).symm⟩
  · subst h1 h2
    rw [if_pos rfl, if_pos rfl]
    have hin : ∀ b ∈ K ++ N, b ∈ (K ++ N) ++ [en] := fun b hb => List.mem_append_left _ hb
    refine ⟨⟨fun b hb => (had b (List.mem_append_left _ hb)).trans (h.1 b hb), ?_, ?_, ?_⟩, fun k hk => rfl⟩
    · rw [← List.append_assoc]; exact HC_new (HC_up h.2.1 hn he) he
    · rw [← List.append_assoc]; exact (Cl_up h.2.2.1 hn).push (by rw [shSg_e he]; simp)
    · rw [← List.append_assoc]; exact h3 _ (h.2.2.2.mono hin) (List.mem_append_right _ (List.mem_singleton.mpr rfl))
noncomputable def q_X11_singers_76 (z0 : Nat) (x1 : Int32) (x2 : Int32) (x3 : Int32) (x4 : Int32)  (rec : (Mem × MemO × (Nat → Nat) × List Nat × Nat × Nat × Int32 × Int32) → Option ((Nat → Nat) × Mem × MemO × List Nat × Int32)) : (Mem × MemO × (Nat → Nat) × List Nat × Nat × Nat × Int32 × Int32) → Option ((Nat → Nat) × Mem × MemO × List Nat × Int32) := fun (G, O, S, N, U, e5, x6, x7) => chk (shE e5) ((if x4 ≤ x7 then some (S, G, O, N, x6) else bnd (x3 + (3 * x7)) (fun x8_12 => (if (f_X6_hasRoom G e5 x8_12 3) = 0 then some (S, G, O, N, (-12)) else chk (inB x8_12 40) (chk (inB (x8_12 + 1) 40) (chk (inB (x8_12 + 2) 40) (chk (decide (U + 1 ≤ 10)) (bnd (1000 + (G 100 4).toNatClampNeg) (fun e25 => chk (enB z0 e25 N) (bndP5 (f_X11_singer e25 G O S (G (e5 + 4) x8_12.toNatClampNeg) (G (e5 + 4) (x8_12 + 1).toNatClampNeg) (G (e5 + 4) (x8_12 + 2).toNatClampNeg)) (fun S19 G17 O18 n20 v21 => bnd (if n20 = 1 then N ++ [e25] else N) (fun N24 => (if v21 < 0 then bnd (x7 + 1) (fun x7_28 => rec (G17, O18, S19, N24, (U + 1), e5, x6, x7_28)) else bnd (x6 + 1) (fun x6_29 => bnd (x7 + 1) (fun x7_30 => rec (G17, O18, S19, N24, (U + 1), e5, x6_29, x7_30))))))))))))))))
noncomputable def f_X11_singers (z0 : Nat) (G : Mem) (O : MemO) (S : (Nat → Nat)) (x1 : Int32) (x2 : Int32) (x3 : Int32) (x4 : Int32) : Option ((Nat → Nat) × Mem × MemO × List Nat × Int32) := (if (f_X11_outside x1 4) = 0 then (if (f_X11_outside x2 3) = 0 then (if x4 < 0 then some (S, G, O, [], (-2)) else (if x4 ≤ 10 then chk (inB x1 4) (bndO (O 118 x1.toNatClampNeg) (fun e6 => chk (shE e6) ((if (f_X6_isMissing G e6) = 0 then (if (G e6 1) = x2 then (if (f_X6_isMissing G e6) = 0 then iter (q_X11_singers_76 z0 x1 x2 x3 x4) fuel (G, O, S, [], 0, e6, 0, 0) else some (S, G, O, [], (-11))) else some (S, G, O, [], (-13))) else (if (f_X6_isMissing G e6) = 0 then iter (q_X11_singers_76 z0 x1 x2 x3 x4) fuel (G, O, S, [], 0, e6, 0, 0) else some (S, G, O, [], (-11))))))) else some (S, G, O, [], (-2)))) else some (S, G, O, [], (-2))) else some (S, G, O, [], (-2)))
theorem kyX11_singers : Ky yX11_singers cX11_singers 9 (some FieldType.int) 4 := ⟨u4_152, u1_1, by decide, by decide, by decide, by decide +kernel⟩
set_option maxHeartbeats 4000000 in
set_option maxRecDepth 100000 in
theorem c_X11_singers (l : Launch) (D : va_G) (K : List Nat) (sh : Nat → Ent) (ad : Nat → Nat) (cy : Nat → ClassId) (X : va_W) (B : State → Prop) (sz : Nat) (hclA : Bcl (AZ K ad X sz) B) (hCl : Cl K sh)  (S : Nat → Nat) (G : Mem) (L : MemL) (O : MemO) (x1 : Int32) (x2 : Int32) (x3 : Int32) (x4 : Int32) {Gz : Mem} {Oz : MemO} {Sz : (Nat → Nat)} {Nz : List Nat} {vz : Int32} (hCa : ∀ U : State, B U → CaS U) (z0 : Nat) (hfr : ∀ e, 1000 + z0 ≤ e → e < 2000 → e ∉ K) (hsh0 : shSg S sh = sh) (hE : HC S K sh) (hOR : ORf K O) (hf : f_X11_singers z0 G O S x1 x2 x3 x4 = some (Sz, Gz, Oz, Nz, vz)) : Met l yX11_singers (wsU yX11_singers cX11_singers 9 (some FieldType.int)) (rmX 6 10 30) (va_Pc [.ref (ad 100), .int x1, .int x2, .int x3, .int x4] (PZ sz D K sh ad cy X B G L O)) (QZ D K ad cy X (AZ K ad X sz) (K ++ Nz) (fun z => z = shSg Sz sh) Gz L Oz (fun _ => some (.int vz))) 10 30 (AZ K ad X sz) := by
  refine s_metZ (by decide) (Nat.le_of_ble_eq_true rfl) ?_
  intro p e s m args below meth c ls H locs A0 eA0 hA E hK hBs hnm hI hl
  rw [← eA0] at hclA
  rw [← eA0]
  have hsub : ∀ b ∈ K, b ∈ K := fun b hb => hb
  have hcl : Bcl (AS K ad X) B := hclA.mono (AS_D hI.2.1)
  have had : ∀ b ∈ K, ad b = ad b := fun b hb => rfl
  have hl : lv_has ls 9 [(0, .ref (ad 100)), (1, .int x1), (2, .int x2), (3, .int x3), (4, .int x4)] := hl
  have E : Cx p s m args meth c RX11 cX11_singers 9 (some FieldType.int) := E
  obtain ⟨hx, hb, hr, hml, hown, hu, hlocks⟩ := id E
  have B76 : ∀ (n : Nat) (ad1 : Nat → Nat) (G : Mem) (O : MemO) (S : (Nat → Nat)) (N : List Nat) (U : Nat) (e5 : Nat) (x6 : Int32) (x7 : Int32) (H : Heap) (locs : List Loc) (ls : Array Slot), lv_has ls 9 [(0, .ref (ad1 100)), (3, .int x3), (4, .int x4), (5, .ref (ad1 e5)), (6, .int x6), (7, .int x7)] → IS D (K ++ N) (shSg S sh) ad1 cy X A0 s.heap H locs G L O → SgI K N sh ad ad1 S O → U ≤ 10 → iter (q_X11_singers_76 z0 x1 x2 x3 x4) n (G, O, S, N, U, e5, x6, x7) = some (Sz, Gz, Oz, Nz, vz) → W p l e (rmX 6 10 30) s m args below meth c H locs U (3 * U) (MQ below (QZ D K ad cy X A0 (K ++ Nz) (fun z => z = shSg Sz sh) Gz L Oz (fun _ => some (.int vz))) args s 10 30 A0) (F0 m 76 ls []) := by
    intro n
    induction n with
    | zero => intro ad1 G O S N U e5 x6 x7 H locs ls hl hI hJ hU hf; exact iter_0 hf
    | succ n ih =>
      intro ad1 G O S N U e5 x6 x7 H locs ls hl hI hJ hU hf
      have hf : q_X11_singers_76 z0 x1 x2 x3 x4 (iter (q_X11_singers_76 z0 x1 x2 x3 x4) n) (G, O, S, N, U, e5, x6, x7) = some (Sz, Gz, Oz, Nz, vz) := hf
      rw [q_X11_singers_76] at hf
      obtain ⟨KN, eKN⟩ : ∃ z, z = K ++ N := ⟨_, rfl⟩
      obtain ⟨shN, eshN⟩ : ∃ z, z = shSg S sh := ⟨_, rfl⟩
      rw [← eKN, ← eshN] at hI
      have hE : HC S KN shN := by rw [eKN, eshN]; exact hJ.2.1
      have hcl : Bcl (AS KN ad1 X) B := hclA.mono (AS_D hI.2.1)
      obtain ⟨he5, hf⟩ := chk_i hf
      refine lv_iload hx hb dX11_singers_76 (lv_at hl 5 rfl) ?_
      refine lv_iload hx hb dX11_singers_78 (lv_at hl 2 rfl) ?_
      refine lv_icmp_ge (tgt := 149) hx hb dX11_singers_80 (by decide) (fun c11 => ?_) (fun c11 => ?_)
      · have hf := ite_t c11 hf
        refine lv_iload hx hb dX11_singers_149 (lv_at hl 4 rfl) ?_
        have hI9 : IS D (K ++ N) (shSg S sh) ad1 cy X A0 s.heap H locs G L O := by rw [← eKN, ← eshN]; exact hI
        cases hf
        refine W.widen (k := 10) (n := 30) (by omega) (by omega) ?_
        exact s_iretZ E hJ.1 rfl rfl hI9 dX11_singers_151
      · have hf := ite_f c11 hf
        refine lv_iload_n hx hb dX11_singers_83 rfl (lv_at hl 1 rfl) ?_
        refine lv_iconst (v := 3) hx hb dX11_singers_84 (by decide) ?_
        refine lv_iload hx hb dX11_singers_85 (lv_at hl 5 rfl) ?_
        refine lv_imul hx hb dX11_singers_87 ?_
        refine lv_iadd hx hb dX11_singers_88 ?_
        obtain ⟨x8_12, ex8_12, hf⟩ := bnd_i hf
        refine s_nmI ex8_12 ?_
        refine lv_istore (lv' := [(8, .int x8_12), (0, .ref (ad1 100)), (3, .int x3), (4, .int x4), (5, .ref (ad1 e5)), (6, .int x6), (7, .int x7)]) hx hb dX11_singers_89 hl (by decide) rfl (fun ls hl => ?_)
        refine lv_aload hx hb dX11_singers_91 (lv_at hl 4 rfl) ?_
        refine lv_iload hx hb dX11_singers_93 (lv_at hl 0 rfl) ?_
        refine lv_iconst (v := 3) hx hb dX11_singers_95 (by decide) ?_
        refine s_afI hI (s_runV (rest := []) (As := [.int x8_12, .int 3]) (np := 2) E hK hI (s_B hclA hBs hI) hcl.2 (shS hE.1 he5) rfl (c_X6_hasRoom l D KN shN ad1 cy X B hcl S hE e5 he5 G L O x8_12 3 rfl) kyX6_hasRoom u4_144 u4_145 u4_146 (by decide) rfl hl.1 rfl (Nat.le_of_ble_eq_true rfl) ⟨by omega, by omega⟩ dX11_singers_96) (fun H locs hI => ?_)
        refine lv_if_ne (tgt := 105) hx hb dX11_singers_99 (by decide) (fun c13 => ?_) (fun c13 => ?_)
        · have hf := ite_f c13 hf
          refine lv_aload_n hx hb dX11_singers_105 rfl (lv_at hl 1 rfl) ?_
          refine lv_aload hx hb dX11_singers_106 (lv_at hl 4 rfl) ?_
          refine s_get (v := .ref (ad1 (e5 + 4))) hx hb hu inU6 hown hK hI (shS hE.1 he5) rfl 0 (by decide) u1_187 (fun _ h => h) rfl rfl dX11_singers_108 ?_
          refine lv_iload hx hb dX11_singers_111 (lv_at hl 0 rfl) ?_
          obtain ⟨h14, hf⟩ := chk_i hf
          refine s_ild hx hb hK hI (shI hE.1 he5) (inB_i h14) dX11_singers_113 ?_
          refine lv_aload hx hb dX11_singers_114 (lv_at hl 4 rfl) ?_
          refine s_get (v := .ref (ad1 (e5 + 4))) hx hb hu inU6 hown hK hI (shS hE.1 he5) rfl 0 (by decide) u1_187 (fun _ h => h) rfl rfl dX11_singers_116 ?_
          refine lv_iload hx hb dX11_singers_119 (lv_at hl 0 rfl) ?_
          refine lv_iconst (v := 1) hx hb dX11_singers_121 (by decide) ?_
          refine lv_iadd hx hb dX11_singers_122 ?_
          obtain ⟨h15, hf⟩ := chk_i hf
          refine s_ild hx hb hK hI (shI hE.1 he5) (inB_i h15) dX11_singers_123 ?_
          refine lv_aload hx hb dX11_singers_124 (lv_at hl 4 rfl) ?_
          refine s_get (v := .ref (ad1 (e5 + 4))) hx hb hu inU6 hown hK hI (shS hE.1 he5) rfl 0 (by decide) u1_187 (fun _ h => h) rfl rfl dX11_singers_126 ?_
          refine lv_iload hx hb dX11_singers_129 (lv_at hl 0 rfl) ?_
          refine lv_iconst (v := 2) hx hb dX11_singers_131 (by decide) ?_
          refine lv_iadd hx hb dX11_singers_132 ?_
          obtain ⟨h16, hf⟩ := chk_i hf
          refine s_ild hx hb hK hI (shI hE.1 he5) (inB_i h16) dX11_singers_133 ?_
          obtain ⟨h26, hf⟩ := chk_i hf
          replace hU : U + 1 ≤ 10 := of_decide_eq_true h26
          obtain ⟨e25, ee25, hf⟩ := bnd_i hf
          obtain ⟨h23, hf⟩ := chk_i hf
          have hen : 1000 ≤ e25 ∧ e25 < 2000 := ⟨by have := (of_decide_eq_true h23).1; omega, (of_decide_eq_true h23).2.1⟩
          have hnN : e25 ∉ K ++ N := fun hb => (List.mem_append.mp hb).elim (fun hb => hfr _ (of_decide_eq_true h23).1 hen.2 hb) (of_decide_eq_true h23).2.2
          obtain ⟨S19, G17, O18, n20, v21, h22, hf⟩ := bndP5_i hf
          rw [eKN] at hI
          replace hI : IS D (K ++ N) (shSg (upS S e25 (kcl (G (e5 + 4) x8_12.toNatClampNeg))) sh) ad1 cy X A0 s.heap H locs G L O := IS_sh (fun k hk => by rw [eshN, shSg_up (fun hb => hnN (by rw [← hb]; exact hk))]) hI
          refine s_afZ hA hI (s_runVz (rest := []) (As := [.int (G (e5 + 4) x8_12.toNatClampNeg), .int (G (e5 + 4) (x8_12 + 1).toNatClampNeg), .int (G (e5 + 4) (x8_12 + 2).toNatClampNeg)]) (np := 3) E hK hI (s_B hclA hBs hI) hclA.2 (mE (HC_up (c := kcl (G (e5 + 4) x8_12.toNatClampNeg)) hJ.2.1 hnN hen).1 eC_100) rfl (c_X11_singer l D (K ++ N) (shSg (upS S e25 (kcl (G (e5 + 4) x8_12.toNatClampNeg))) sh) ad1 cy X B H.size (hclA.mono (AZ_in hI hA)) (Cl_up hJ.2.2.1 hnN) S G L O (G (e5 + 4) x8_12.toNatClampNeg) (G (e5 + 4) (x8_12 + 1).toNatClampNeg) (G (e5 + 4) (x8_12 + 2).toNatClampNeg) hCa e25 hen hnN (HC_up hJ.2.1 hnN hen) (shSg_e hen) hJ.2.2.2 h22) kyX11_singer u4_153 u2_223 u2_224 (by decide) rfl hl.1 rfl (Nat.le_of_ble_eq_true rfl) ⟨by omega, by omega⟩ dX11_singers_134) (fun ad2 sh2 H locs had2 hHy hI => ?_)
          change W p l e _ s m _ below meth c _ _ _ _ _ (F0 m 137 ls [.int v21])
          obtain ⟨hJ, hsh2⟩ := SgI_step hJ hen hnN had2 h22
          obtain ⟨N24, eN24, hf⟩ := bnd_i hf
          rw [← eN24] at hJ hsh2
          rw [← app_if, ← eN24] at hI
          replace hI : IS D (K ++ N24) (shSg S19 sh) ad2 cy X A0 s.heap H locs G17 L O18 := IS_sh (fun k hk => congrArg (fun z => entE k z ad2 cy G17 L O18) ((hsh2 k hk).trans (congrFun hHy k).symm)) hI
          have hr_100 := had2 100 (by rw [← eKN]; exact ((mE hE.1 eC_100)).1)
          have hr_e5 := had2 e5 (by rw [← eKN]; exact ((shS hE.1 he5)).1)
          rw [← hr_100, ← hr_e5] at hl
          refine lv_if_lt (tgt := 143) hx hb dX11_singers_137 (by decide) (fun c27 => ?_) (fun c27 => ?_)
          · have hf := ite_t c27 hf
            obtain ⟨x7_28, ex7_28, hf⟩ := bnd_i hf
            refine lv_iinc (v := x7_28) (lv' := [(7, .int x7_28), (8, .int x8_12), (0, .ref (ad2 100)), (3, .int x3), (4, .int x4), (5, .ref (ad2 e5)), (6, .int x6)]) hx hb dX11_singers_143 hl (k := 6) rfl (by rw [ex7_28]; rfl) (by decide) rfl (fun ls hl => ?_)
            refine lv_goto (tgt := 76) hx hb dX11_singers_146 (by decide) ?_
            exact ih ad2 G17 O18 S19 N24 (U + 1) e5 x6 x7_28 H locs ls (lv_sub hl [2, 3, 4, 5, 6, 0] rfl) hI hJ hU hf
          · have hf := ite_f c27 hf
            obtain ⟨x6_29, ex6_29, hf⟩ := bnd_i hf
            refine lv_iinc (v := x6_29) (lv' := [(6, .int x6_29), (8, .int x8_12), (0, .ref (ad2 100)), (3, .int x3), (4, .int x4), (5, .ref (ad2 e5)), (7, .int x7)]) hx hb dX11_singers_140 hl (k := 5) rfl (by rw [ex6_29]; rfl) (by decide) rfl (fun ls hl => ?_)
            obtain ⟨x7_30, ex7_30, hf⟩ := bnd_i hf
            refine lv_iinc (v := x7_30) (lv' := [(7, .int x7_30), (6, .int x6_29), (8, .int x8_12), (0, .ref (ad2 100)), (3, .int x3), (4, .int x4), (5, .ref (ad2 e5))]) hx hb dX11_singers_143 hl (k := 6) rfl (by rw [ex7_30]; rfl) (by decide) rfl (fun ls hl => ?_)
            refine lv_goto (tgt := 76) hx hb dX11_singers_146 (by decide) ?_
            exact ih ad2 G17 O18 S19 N24 (U + 1) e5 x6_29 x7_30 H locs ls (lv_sub hl [3, 4, 5, 6, 1, 0] rfl) hI hJ hU hf
        · have hf := ite_t c13 hf
          refine lv_bipush (v := (-12)) hx hb dX11_singers_102 (by decide) ?_
          have hI9 : IS D (K ++ N) (shSg S sh) ad1 cy X A0 s.heap H locs G L O := by rw [← eKN, ← eshN]; exact hI
          cases hf
          refine W.widen (k := 10) (n := 30) (by omega) (by omega) ?_
          exact s_iretZ E hJ.1 rfl rfl hI9 dX11_singers_104
  rw [f_X11_singers] at hf
  refine lv_iload_n hx hb dX11_singers_0 rfl (lv_at hl 1 rfl) ?_
  refine lv_iconst (v := 4) hx hb dX11_singers_1 (by decide) ?_
  refine s_cSP (np := 2) (rest := []) E (c_X11_outside l x1 4 rfl) kyX11_outside u2_219 u2_220 (by decide) rfl hl.1 rfl (Nat.le_of_ble_eq_true rfl) ⟨by decide, by decide⟩ dX11_singers_2 ?_
  refine lv_if_ne (tgt := 28) hx hb dX11_singers_5 (by decide) (fun c1 => ?_) (fun c1 => ?_)
  · have hf := ite_f c1 hf
    refine lv_bipush (v := (-2)) hx hb dX11_singers_28 (by decide) ?_
    cases hf
    have hI9 : IS D (K ++ []) sh ad cy X A0 s.heap H locs G L O := by rw [List.append_nil]; exact hI
    refine W.widen (k := 10) (n := 30) (by decide) (by decide) ?_
    exact s_iretZ E had hsh0.symm rfl hI9 dX11_singers_30
  · have hf := ite_t c1 hf
    refine lv_iload_n hx hb dX11_singers_8 rfl (lv_at hl 2 rfl) ?_
    refine lv_iconst (v := 3) hx hb dX11_singers_9 (by decide) ?_
    refine s_cSP (np := 2) (rest := []) E (c_X11_outside l x2 3 rfl) kyX11_outside u2_219 u2_220 (by decide) rfl hl.1 rfl (Nat.le_of_ble_eq_true rfl) ⟨by decide, by decide⟩ dX11_singers_10 ?_
    refine lv_if_ne (tgt := 28) hx hb dX11_singers_13 (by decide) (fun c2 => ?_) (fun c2 => ?_)
    · have hf := ite_f c2 hf
      refine lv_bipush (v := (-2)) hx hb dX11_singers_28 (by decide) ?_
      cases hf
      have hI9 : IS D (K ++ []) sh ad cy X A0 s.heap H locs G L O := by rw [List.append_nil]; exact hI
      refine W.widen (k := 10) (n := 30) (by decide) (by decide) ?_
      exact s_iretZ E had hsh0.symm rfl hI9 dX11_singers_30
    · have hf := ite_t c2 hf
      refine lv_iload hx hb dX11_singers_16 (lv_at hl 4 rfl) ?_
      refine lv_if_lt (tgt := 28) hx hb dX11_singers_18 (by decide) (fun c3 => ?_) (fun c3 => ?_)
      · have hf := ite_t c3 hf
        refine lv_bipush (v := (-2)) hx hb dX11_singers_28 (by decide) ?_
        cases hf
        have hI9 : IS D (K ++ []) sh ad cy X A0 s.heap H locs G L O := by rw [List.append_nil]; exact hI
        refine W.widen (k := 10) (n := 30) (by decide) (by decide) ?_
        exact s_iretZ E had hsh0.symm rfl hI9 dX11_singers_30
      · have hf := ite_f c3 hf
        refine lv_iload hx hb dX11_singers_21 (lv_at hl 4 rfl) ?_
        refine lv_bipush (v := 10) hx hb dX11_singers_23 (by decide) ?_
        refine lv_icmp_le (tgt := 31) hx hb dX11_singers_25 (by decide) (fun c4 => ?_) (fun c4 => ?_)
        · have hf := ite_t c4 hf
          refine lv_aload_n hx hb dX11_singers_31 rfl (lv_at hl 0 rfl) ?_
          refine s_get (v := .ref (ad 118)) hx hb hu inU11 hown hK hI (mE hE.1 eC_100) rfl 8 (by decide) u2_183 (fun _ h => h) rfl rfl dX11_singers_32 ?_
          refine lv_iload_n hx hb dX11_singers_35 rfl (lv_at hl 1 rfl) ?_
          obtain ⟨h5, hf⟩ := chk_i hf
          obtain ⟨e6, h7, hf⟩ := bndO_i hf
          obtain ⟨h8, hf⟩ := chk_i hf
          refine s_ald (t := 8) (t0 := 7) (by decide) rfl hx hb hK hI (mE hE.1 eC_118) (inB_i h5) dX11_singers_36 ?_
          refine s_nmO h7 ?_
          refine lv_astore (lv' := [(5, .ref (ad e6)), (0, .ref (ad 100)), (1, .int x1), (2, .int x2), (3, .int x3), (4, .int x4)]) hx hb dX11_singers_37 hl (by decide) rfl (fun ls hl => ?_)
          refine lv_aload hx hb dX11_singers_39 (lv_at hl 0 rfl) ?_
          refine s_afI hI (s_runV (rest := []) (As := []) (np := 0) E hK hI (s_B hclA hBs hI) hcl.2 (shS hE.1 h8) rfl (c_X6_isMissing l D K sh ad cy X B hcl S hE e6 h8 G L O  rfl) kyX6_isMissing u3_186 u3_187 u3_188 (by decide) rfl hl.1 rfl (Nat.le_of_ble_eq_true rfl) ⟨by decide, by decide⟩ dX11_singers_41) (fun H locs hI => ?_)
          refine lv_if_ne (tgt := 59) hx hb dX11_singers_44 (by decide) (fun c9 => ?_) (fun c9 => ?_)
          · have hf := ite_f c9 hf
            refine lv_aload hx hb dX11_singers_59 (lv_at hl 0 rfl) ?_
            refine s_afI hI (s_runV (rest := []) (As := []) (np := 0) E hK hI (s_B hclA hBs hI) hcl.2 (shS hE.1 h8) rfl (c_X6_isMissing l D K sh ad cy X B hcl S hE e6 h8 G L O  rfl) kyX6_isMissing u3_186 u3_187 u3_188 (by decide) rfl hl.1 rfl (Nat.le_of_ble_eq_true rfl) ⟨by decide, by decide⟩ dX11_singers_61) (fun H locs hI => ?_)
            refine lv_if_eq (tgt := 70) hx hb dX11_singers_64 (by decide) (fun c10 => ?_) (fun c10 => ?_)
            · have hf := ite_t c10 hf
              refine lv_iconst (v := 0) hx hb dX11_singers_70 (by decide) ?_
              refine lv_istore (lv' := [(6, .int 0), (5, .ref (ad e6)), (0, .ref (ad 100)), (1, .int x1), (2, .int x2), (3, .int x3), (4, .int x4)]) hx hb dX11_singers_71 hl (by decide) rfl (fun ls hl => ?_)
              refine lv_iconst (v := 0) hx hb dX11_singers_73 (by decide) ?_
              refine lv_istore (lv' := [(7, .int 0), (6, .int 0), (5, .ref (ad e6)), (0, .ref (ad 100)), (1, .int x1), (2, .int x2), (3, .int x3), (4, .int x4)]) hx hb dX11_singers_74 hl (by decide) rfl (fun ls hl => ?_)
              exact B76 fuel ad G O S ([]) 0 e6 0 0 H locs ls (lv_sub hl [3, 6, 7, 2, 1, 0] rfl) (by rw [hsh0, List.append_nil]; exact hI) (And.intro (fun b hb => rfl) (by rw [hsh0, List.append_nil]; exact ⟨hE, hCl, hOR⟩)) (by decide) hf
            · have hf := ite_f c10 hf
              refine lv_bipush (v := (-11)) hx hb dX11_singers_67 (by decide) ?_
              cases hf
              have hI9 : IS D (K ++ []) sh ad cy X A0 s.heap H locs G L O := by rw [List.append_nil]; exact hI
              refine W.widen (k := 10) (n := 30) (by decide) (by decide) ?_
              exact s_iretZ E had hsh0.symm rfl hI9 dX11_singers_69
          · have hf := ite_t c9 hf
            refine lv_aload hx hb dX11_singers_47 (lv_at hl 0 rfl) ?_
            refine s_get (v := .int (G e6 1)) hx hb hu inU6 hown hK hI (shS hE.1 h8) rfl 1 (by decide) u1_189 (fun _ h => h) rfl rfl dX11_singers_49 ?_
            refine lv_iload_n hx hb dX11_singers_52 rfl (lv_at hl 3 rfl) ?_
            refine lv_icmp_eq (tgt := 59) hx hb dX11_singers_53 (by decide) (fun c31 => ?_) (fun c31 => ?_)
            · have hf := ite_t c31 hf
              refine lv_aload hx hb dX11_singers_59 (lv_at hl 0 rfl) ?_
              refine s_afI hI (s_runV (rest := []) (As := []) (np := 0) E hK hI (s_B hclA hBs hI) hcl.2 (shS hE.1 h8) rfl (c_X6_isMissing l D K sh ad cy X B hcl S hE e6 h8 G L O  rfl) kyX6_isMissing u3_186 u3_187 u3_188 (by decide) rfl hl.1 rfl (Nat.le_of_ble_eq_true rfl) ⟨by decide, by decide⟩ dX11_singers_61) (fun H locs hI => ?_)
              refine lv_if_eq (tgt := 70) hx hb dX11_singers_64 (by decide) (fun c32 => ?_) (fun c32 => ?_)
              · have hf := ite_t c32 hf
                refine lv_iconst (v := 0) hx hb dX11_singers_70 (by decide) ?_
                refine lv_istore (lv' := [(6, .int 0), (5, .ref (ad e6)), (0, .ref (ad 100)), (1, .int x1), (2, .int x2), (3, .int x3), (4, .int x4)]) hx hb dX11_singers_71 hl (by decide) rfl (fun ls hl => ?_)
                refine lv_iconst (v := 0) hx hb dX11_singers_73 (by decide) ?_
                refine lv_istore (lv' := [(7, .int 0), (6, .int 0), (5, .ref (ad e6)), (0, .ref (ad 100)), (1, .int x1), (2, .int x2), (3, .int x3), (4, .int x4)]) hx hb dX11_singers_74 hl (by decide) rfl (fun ls hl => ?_)
                exact B76 fuel ad G O S ([]) 0 e6 0 0 H locs ls (lv_sub hl [3, 6, 7, 2, 1, 0] rfl) (by rw [hsh0, List.append_nil]; exact hI) (And.intro (fun b hb => rfl) (by rw [hsh0, List.append_nil]; exact ⟨hE, hCl, hOR⟩)) (by decide) hf
              · have hf := ite_f c32 hf
                refine lv_bipush (v := (-11)) hx hb dX11_singers_67 (by decide) ?_
                cases hf
                have hI9 : IS D (K ++ []) sh ad cy X A0 s.heap H locs G L O := by rw [List.append_nil]; exact hI
                refine W.widen (k := 10) (n := 30) (by decide) (by decide) ?_
                exact s_iretZ E had hsh0.symm rfl hI9 dX11_singers_69
            · have hf := ite_f c31 hf
              refine lv_bipush (v := (-13)) hx hb dX11_singers_56 (by decide) ?_
              cases hf
              have hI9 : IS D (K ++ []) sh ad cy X A0 s.heap H locs G L O := by rw [List.append_nil]; exact hI
              refine W.widen (k := 10) (n := 30) (by decide) (by decide) ?_
              exact s_iretZ E had hsh0.symm rfl hI9 dX11_singers_58
        · have hf := ite_f c4 hf
          refine lv_bipush (v := (-2)) hx hb dX11_singers_28 (by decide) ?_
          cases hf
          have hI9 : IS D (K ++ []) sh ad cy X A0 s.heap H locs G L O := by rw [List.append_nil]; exact hI
          refine W.widen (k := 10) (n := 30) (by decide) (by decide) ?_
          exact s_iretZ E had hsh0.symm rfl hI9 dX11_singers_30
