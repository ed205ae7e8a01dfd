def stx (S : Nat → Nat) (tx ln : Nat) : Nat → Nat := fun b => if b = tx then 9 else if b = tx + 1 then ln else S b
theorem shC_lt : ∀ q ∈ shC, q.1 < 200 := by decide
theorem stx_n {S : Nat → Nat} {tx ln b : Nat} (h : b ≠ tx) (h1 : b ≠ tx + 1) : stx S tx ln b = S b := by unfold stx; rw [if_neg h, if_neg h1]
theorem shT_n {sh : Nat → Ent} {tx b : Nat} (h : b ≠ tx) : shT sh tx b = sh b := if_neg h
theorem stx_E {S : Nat → Nat} {tx ln : Nat} (hx : 2000 ≤ tx ∧ tx % 4 = 0) : txE (stx S tx ln) tx = true := decide_eq_true ⟨hx.1, hx.2, if_pos rfl⟩
theorem HC_tx {S : Nat → Nat} {K K2 : List Nat} {sh : Nat → Ent} {tx ln : Nat} (h : HC S K sh) (hx : 2000 ≤ tx ∧ tx % 4 = 0) (hK : ∀ b ∈ K, b ∈ K2) (m0 : tx ∈ K2) (m1 : tx + 1 ∈ K2) (m2 : tx + 2 ∈ K2) (m3 : tx + 3 ∈ K2) (h1 : sh (tx + 1) = (1, ln, [])) (h2 : sh (tx + 2) = (1, 3, [])) (h3 : sh (tx + 3) = (1, 32, [])) : HC (stx S tx ln) K2 (shT sh tx) := by
  refine ⟨fun q hq => ?_, fun e he => ?_, fun e he => ?_⟩
  · have hl := shC_lt q hq
    rw [shT_n (by omega)]
    exact ⟨hK _ (h.1 q hq).1, (h.1 q hq).2⟩
  · have h0 := of_decide_eq_true he
    have hs : stx S tx ln e = S e := stx_n (by omega) (by omega)
    have h4 : sgE S e = true := by unfold sgE at he ⊢; rw [hs] at he; exact he
    rw [shT_n (by omega), hs]
    exact ⟨hK _ (h.2.1 e h4).1, (h.2.1 e h4).2⟩
  · have h0 := of_decide_eq_true he
    by_cases hxe : e = tx
    · subst hxe
      refine ⟨⟨m0, if_pos rfl⟩, ⟨m1, ?_⟩, ⟨m2, ?_⟩, m3, ?_⟩
      · rw [shT_n (by omega), h1]; unfold stx; rw [if_neg (by omega), if_pos rfl]
      · rw [shT_n (by omega), h2]
      · rw [shT_n (by omega), h3]
    · have hs : stx S tx ln e = S e := stx_n hxe (by omega)
      have hs1 : stx S tx ln (e + 1) = S (e + 1) := stx_n (by omega) (by omega)
      have h4 : txE S e = true := by unfold txE at he ⊢; rw [hs] at he; exact he
      obtain ⟨q0, q1, q2, q3⟩ := h.2.2 e h4
      rw [shT_n hxe, shT_n (show e + 1 ≠ tx by omega), shT_n (show e + 2 ≠ tx by omega), shT_n (show e + 3 ≠ tx by omega), hs1]
      exact ⟨⟨hK _ q0.1, q0.2⟩, ⟨hK _ q1.1, q1.2⟩, ⟨hK _ q2.1, q2.2⟩, hK _ q3.1, q3.2⟩
theorem c_compiled1 (l : Launch) (D : va_G) (K : List Nat) (sh : Nat → Ent) (ad : Nat → Nat) (cy : Nat → ClassId) (X : va_W) (B : State → Prop) (sz : Nat) (hclA : Bcl (AZ K ad X sz) B) (hCl : Cl K sh)  (S : Nat → Nat) (hE : HC S K sh) (adK adV : Nat → Nat) (hSBA : ∀ U : State, B U → SB adK adV (AZ K ad X sz) U) (G : Mem) (L : MemL) (O : MemO)  {Gz : Mem} {Oz : MemO} (tx ln : Nat) (hsh_tx : sh tx = (0, 9, [1, 1, 1])) (hsh_tx1 : sh (tx + 1) = (1, ln, [])) (hsh_tx2 : sh (tx + 2) = (1, 3, [])) (hsh_tx3 : sh (tx + 3) = (1, 32, [])) (hn_tx : tx ∉ K) (hn_tx1 : tx + 1 ∉ K) (hn_tx2 : tx + 2 ∉ K) (hn_tx3 : tx + 3 ∉ K) (hOR : ORf K O) (hf : f_X5_compiled tx ln G O = some (Gz, Oz, 1)) : Met l yX5_compiled (wsU yX5_compiled cX5_compiled 3 (some (FieldType.object "NobodyBreathes$Text"))) (rmX 69 4 198) (va_Pc [.ref (ad 114)] (PZ sz D K sh ad cy X B G L O)) (QZ D K ad cy X (AZ K ad X sz) ((((K ++ [tx + 2]) ++ [tx]) ++ [tx + 1]) ++ [tx + 3]) (fun z => z = shT sh tx) Gz L Oz (fun a => some (.ref (a tx)))) 4 198 (AZ K ad X sz) := c_X5_compiled l D K sh ad cy X B sz hclA hCl S hE adK adV hSBA G L O tx ln hsh_tx hsh_tx1 hsh_tx2 hsh_tx3 hn_tx hn_tx1 hn_tx2 hn_tx3 hOR hf
theorem c_compiled0 (l : Launch) (D : va_G) (K : List Nat) (sh : Nat → Ent) (ad : Nat → Nat) (cy : Nat → ClassId) (X : va_W) (B : State → Prop) (sz : Nat) (hclA : Bcl (AZ K ad X sz) B) (hCl : Cl K sh)  (S : Nat → Nat) (hE : HC S K sh) (adK adV : Nat → Nat) (hSBA : ∀ U : State, B U → SB adK adV (AZ K ad X sz) U) (G : Mem) (L : MemL) (O : MemO)  {Gz : Mem} {Oz : MemO} (tx ln : Nat) (hsh_tx : sh tx = (0, 9, [1, 1, 1])) (hsh_tx1 : sh (tx + 1) = (1, ln, [])) (hsh_tx2 : sh (tx + 2) = (1, 3, [])) (hsh_tx3 : sh (tx + 3) = (1, 32, [])) (hn_tx : tx ∉ K) (hn_tx1 : tx + 1 ∉ K) (hn_tx2 : tx + 2 ∉ K) (hn_tx3 : tx + 3 ∉ K) (hOR : ORf K O) (hf : f_X5_compiled tx ln G O = some (Gz, Oz, 0)) : Met l yX5_compiled (wsU yX5_compiled cX5_compiled 3 (some (FieldType.object "NobodyBreathes$Text"))) (rmX 69 4 198) (va_Pc [.ref (ad 114)] (PZ sz D K sh ad cy X B G L O)) (QZ D K ad cy X (AZ K ad X sz) K (fun z => z = sh) Gz L Oz (fun _ => some .null)) 4 198 (AZ K ad X sz) := c_X5_compiled l D K sh ad cy X B sz hclA hCl S hE adK adV hSBA G L O tx ln hsh_tx hsh_tx1 hsh_tx2 hsh_tx3 hn_tx hn_tx1 hn_tx2 hn_tx3 hOR hf
noncomputable def f_X11_text (tx ln : Nat) (G : Mem) (O : MemO) (S : Nat → Nat)  : Option ((Nat → Nat) × Mem × MemO × Nat × Int32) := (if (G 100 7) < 6 then bndP3 (f_X5_compiled tx ln G O) (fun G2 O3 n4 => if n4 = 1 then bnd (G2 100 7) (fun x2_9 => bndP (f_X11_keepText G2 O3 tx) (fun G10 O11 => bndO (f_X5_clear G10) (fun G13 => some (stx S tx ln, G13, O11, 1, x2_9)))) else chk (decide (n4 = 0)) (bnd ((-100) - (G2 114 4)) (fun x2_16 => bndP (f_X11_keepTextN G2 O3) (fun G18 O19 => bndO (f_X5_clear G18) (fun G20 => some (S, G20, O19, 0, x2_16)))))) else some (S, G, O, 0, (-4)))
theorem kyX11_text : Ky yX11_text cX11_text 3 (some FieldType.int) 0 := ⟨u3_170, u1_1, by decide, by decide, by decide, by decide +kernel⟩
set_option maxHeartbeats 4000000 in
set_option maxRecDepth 100000 in
theorem c_X11_text (l : Launch) (D : va_G) (K : List Nat) (sh : Nat → Ent) (ad : Nat → Nat) (cy : Nat → ClassId) (X : va_W) (B : State → Prop) (sz : Nat) (hclA : Bcl (AZ K ad X sz) B) (hCl : Cl K sh)  (S : Nat → Nat) (hE : HC S K sh) (adK adV : Nat → Nat) (hSBA : ∀ U : State, B U → SB adK adV (AZ K ad X sz) U) (G : Mem) (L : MemL) (O : MemO)  {Gz : Mem} {Oz : MemO} {Sz : Nat → Nat} {nz : Nat} {vz : Int32} (tx ln : Nat) (htx0 : 2000 ≤ tx ∧ tx % 4 = 0) (hsh_tx : sh tx = (0, 9, [1, 1, 1])) (hsh_tx1 : sh (tx + 1) = (1, ln, [])) (hsh_tx2 : sh (tx + 2) = (1, 3, [])) (hsh_tx3 : sh (tx + 3) = (1, 32, [])) (hn_tx : tx ∉ K) (hn_tx1 : tx + 1 ∉ K) (hn_tx2 : tx + 2 ∉ K) (hn_tx3 : tx + 3 ∉ K) (hOR : ORf K O) (hf : f_X11_text tx ln G O S = some (Sz, Gz, Oz, nz, vz)) : Met l yX11_text (wsU yX11_text cX11_text 3 (some FieldType.int)) (rmX 70 4 198) (va_Pc [.ref (ad 100)] (PZ sz D K sh ad cy X B G L O)) (QZ D K ad cy X (AZ K ad X sz) (if nz = 1 then ((((K ++ [tx + 2]) ++ [tx]) ++ [tx + 1]) ++ [tx + 3]) else K) (fun z => z = if nz = 1 then shT sh tx else sh) Gz L Oz (fun _ => some (.int vz))) 4 198 (AZ K ad X sz) := by
  refine s_metZ (by decide) (Nat.le_of_ble_eq_true rfl) ?_
  intro p e s m args below meth c ls H locs A0 eA0 hA E hK hBs hnm hI hl
  rw [← eA0] at hclA
  rw [← eA0]
  have hsub : ∀ b ∈ K, b ∈ K := fun b hb => hb
  rw [← eA0] at hSBA
  have hcl : Bcl (AS K ad X) B := hclA.mono (AS_D hI.2.1)
  have hSB : ∀ U : State, B U → SB adK adV (AS K ad X) U := fun U h => SB_nar (hSBA U h) (AS_D hI.2.1)
  have had : ∀ b ∈ K, ad b = ad b := fun b hb => rfl
  have hl : lv_has ls 3 [(0, .ref (ad 100))] := hl
  have E : Cx p s m args meth c RX11 cX11_text 3 (some FieldType.int) := E
  obtain ⟨hx, hb, hr, hml, hown, hu, hlocks⟩ := id E
  rw [f_X11_text] at hf
  refine lv_aload_n hx hb dX11_text_0 rfl (lv_at hl 0 rfl) ?_
  refine s_get (v := .int (G 100 7)) hx hb hu inU11 hown hK hI (mE hE.1 eC_100) rfl 7 (by decide) u2_182 (fun _ h => h) rfl rfl dX11_text_1 ?_
  refine lv_bipush (v := 6) hx hb dX11_text_4 (by decide) ?_
  refine lv_icmp_lt (tgt := 12) hx hb dX11_text_6 (by decide) (fun c1 => ?_) (fun c1 => ?_)
  · have hf := ite_t c1 hf
    refine lv_aload_n hx hb dX11_text_12 rfl (lv_at hl 0 rfl) ?_
    refine s_get (v := .ref (ad 114)) hx hb hu inU11 hown hK hI (mE hE.1 eC_100) rfl 5 (by decide) u2_180 (fun _ h => h) rfl rfl dX11_text_13 ?_
    obtain ⟨G2, O3, n4, h5, hf⟩ := bndP3_i hf
    by_cases c6 : n4 = 1
    · replace hf := ite_t c6 hf
      subst c6
      refine s_afZ hA hI (s_runVz (rest := []) (As := []) (np := 0) E hK hI (s_B hclA hBs hI) hclA.2 (mE hE.1 eC_114) rfl (c_compiled1 l D K sh ad cy X B H.size (hclA.mono (AZ_in hI hA)) hCl S hE adK adV (fun U h => SB_nar (hSBA U h) (AZ_in hI hA)) G L O tx ln hsh_tx hsh_tx1 hsh_tx2 hsh_tx3 hn_tx hn_tx1 hn_tx2 hn_tx3 hOR h5) kyX5_compiled u2_13 u2_14 u2_15 (by decide) rfl hl.1 rfl (Nat.le_of_ble_eq_true rfl) ⟨by decide, by decide⟩ dX11_text_16) (fun ad8 sh1 H locs had8 hHy hI => ?_)
      change W p l e _ s m _ below meth c _ _ _ _ _ (F0 m 19 ls [.ref (ad8 tx)])
      obtain ⟨K8, eK8⟩ : ∃ z, z = ((((K ++ [tx + 2]) ++ [tx]) ++ [tx + 1]) ++ [tx + 3]) := ⟨_, rfl⟩
      have hI : IS D K8 sh1 ad8 cy X A0 s.heap H locs G2 L O3 := by rw [eK8]; exact hI
      have hin8 : ∀ b ∈ K, b ∈ K8 := fun b hb => by rw [eK8]; exact (List.mem_append_left _ (List.mem_append_left _ (List.mem_append_left _ (List.mem_append_left _ hb))))
      have hk8_0 : (tx + 2) ∈ K8 := by rw [eK8]; exact (List.mem_append_left _ (List.mem_append_left _ (List.mem_append_left _ (List.mem_append_right _ (List.mem_singleton.mpr rfl)))))
      have hk8_1 : tx ∈ K8 := by rw [eK8]; exact (List.mem_append_left _ (List.mem_append_left _ (List.mem_append_right _ (List.mem_singleton.mpr rfl))))
      have hk8_2 : (tx + 1) ∈ K8 := by rw [eK8]; exact (List.mem_append_left _ (List.mem_append_right _ (List.mem_singleton.mpr rfl)))
      have hk8_3 : (tx + 3) ∈ K8 := by rw [eK8]; exact (List.mem_append_right _ (List.mem_singleton.mpr rfl))
      have hr8_0 := had8 _ ((mE hE.1 eC_100)).1
      have had : ∀ b ∈ K, ad8 b = ad b := fun b hb => (had8 b (hsub b hb)).trans (had b hb)
      have hsub : ∀ b ∈ K, b ∈ K8 := fun b hb => hin8 b (hsub b hb)
      have hcl : Bcl (AS K8 ad8 X) B := hclA.mono (AS_D hI.2.1)
      have hE : HC (stx S tx ln) K8 sh1 := by rw [hHy]; exact HC_tx hE htx0 hin8 hk8_1 hk8_2 hk8_0 hk8_3 hsh_tx1 hsh_tx2 hsh_tx3
      have hSB : ∀ U : State, B U → SB adK adV (AS K8 ad8 X) U := fun U h => SB_nar (hSBA U h) (AS_D hI.2.1)
      have htx : txE (stx S tx ln) tx = true := stx_E htx0
      rw [← hr8_0] at hl
      refine lv_astore_n (lv' := [(1, .ref (ad8 tx)), (0, .ref (ad8 100))]) hx hb dX11_text_19 rfl hl (by decide) rfl (fun ls hl => ?_)
      refine lv_aload_n hx hb dX11_text_20 rfl (lv_at hl 0 rfl) ?_
      refine lv_ifnonnull (tgt := 37) hx hb dX11_text_21 (by decide) ?_
      refine lv_aload_n hx hb dX11_text_37 rfl (lv_at hl 1 rfl) ?_
      refine s_get (v := .int (G2 100 7)) hx hb hu inU11 hown hK hI (mE hE.1 eC_100) rfl 7 (by decide) u2_182 (fun _ h => h) rfl rfl dX11_text_38 ?_
      obtain ⟨x2_9, ex2_9, hf⟩ := bnd_i hf
      refine s_nmI ex2_9 ?_
      refine lv_istore_n (lv' := [(2, .int x2_9), (1, .ref (ad8 tx)), (0, .ref (ad8 100))]) hx hb dX11_text_41 rfl hl (by decide) rfl (fun ls hl => ?_)
      refine lv_aload_n hx hb dX11_text_42 rfl (lv_at hl 2 rfl) ?_
      refine lv_aload_n hx hb dX11_text_43 rfl (lv_at hl 1 rfl) ?_
      obtain ⟨G10, O11, h12, hf⟩ := bndP_i hf
      refine s_afV hI (s_runV (rest := []) (As := [.ref (ad8 tx)]) (np := 1) E hK hI (s_B hclA hBs hI) hcl.2 (mE hE.1 eC_100) rfl (c_X11_keepText l D K8 sh1 ad8 cy X B hcl (stx S tx ln) hE tx htx G2 L O3  h12) kyX11_keepText u2_167 u2_169 up_14 (by decide) rfl hl.1 rfl (Nat.le_of_ble_eq_true rfl) ⟨by decide, by decide⟩ dX11_text_44) (fun H locs hI => ?_)
      refine lv_aload_n hx hb dX11_text_47 rfl (lv_at hl 2 rfl) ?_
      refine s_get (v := .ref (ad8 114)) hx hb hu inU11 hown hK hI (mE hE.1 eC_100) rfl 5 (by decide) u2_180 (fun _ h => h) rfl rfl dX11_text_48 ?_
      obtain ⟨G13, h14, hf⟩ := bndO_i hf
      refine s_afV hI (s_runV (rest := []) (As := []) (np := 0) E hK hI (s_B hclA hBs hI) hcl.2 (mE hE.1 eC_114) rfl (c_X5_clear l D K8 sh1 ad8 cy X B hcl (stx S tx ln) hE G10 L O11  h14) kyX5_clear u2_171 u2_172 u2_173 (by decide) rfl hl.1 rfl (Nat.le_of_ble_eq_true rfl) ⟨by decide, by decide⟩ dX11_text_51) (fun H locs hI => ?_)
      refine lv_iload_n hx hb dX11_text_54 rfl (lv_at hl 0 rfl) ?_
      cases hf
      subst eK8
      refine W.widen (k := 4) (n := 198) (by decide) (by decide) ?_
      exact s_iretZ E had hHy rfl hI dX11_text_55
    · replace hf := ite_f c6 hf
      replace hf := chk_i hf
      obtain ⟨h7, hf⟩ := hf
      replace h7 := of_decide_eq_true h7
      subst h7
      refine s_afZ hA hI (s_runVz (rest := []) (As := []) (np := 0) E hK hI (s_B hclA hBs hI) hclA.2 (mE hE.1 eC_114) rfl (c_compiled0 l D K sh ad cy X B H.size (hclA.mono (AZ_in hI hA)) hCl S hE adK adV (fun U h => SB_nar (hSBA U h) (AZ_in hI hA)) G L O tx ln hsh_tx hsh_tx1 hsh_tx2 hsh_tx3 hn_tx hn_tx1 hn_tx2 hn_tx3 hOR h5) kyX5_compiled u2_13 u2_14 u2_15 (by decide) rfl hl.1 rfl (Nat.le_of_ble_eq_true rfl) ⟨by decide, by decide⟩ dX11_text_16) (fun ad15 sh1 H locs had15 hHy hI => ?_)
      have hHy := hHy.symm
      subst hHy
      change W p l e _ s m _ below meth c _ _ _ _ _ (F0 m 19 ls [.null])
      have hI : IS D K sh ad15 cy X A0 s.heap H locs G2 L O3 := hI
      have hin15 : ∀ b ∈ K, b ∈ K := fun b hb => hb
      have hr15_0 := had15 _ ((mE hE.1 eC_100)).1
      have had : ∀ b ∈ K, ad15 b = ad b := fun b hb => (had15 b (hsub b hb)).trans (had b hb)
      have hsub : ∀ b ∈ K, b ∈ K := fun b hb => hin15 b (hsub b hb)
      have hcl : Bcl (AS K ad15 X) B := hclA.mono (AS_D hI.2.1)
      have hE : HC S K sh := hE.mono hin15
      have hSB : ∀ U : State, B U → SB adK adV (AS K ad15 X) U := fun U h => SB_nar (hSBA U h) (AS_D hI.2.1)
      rw [← hr15_0] at hl
      refine lv_astore_nN (lv' := [(1, .null), (0, .ref (ad15 100))]) hx hb dX11_text_19 rfl hl (by decide) rfl (fun ls hl => ?_)
      refine lv_aload_nN hx hb dX11_text_20 rfl (lv_at hl 0 rfl) ?_
      refine lv_ifnonnullN hx hb dX11_text_21 ?_
      refine lv_bipush (v := (-100)) hx hb dX11_text_24 (by decide) ?_
      refine lv_aload_n hx hb dX11_text_26 rfl (lv_at hl 1 rfl) ?_
      refine s_get (v := .ref (ad15 114)) hx hb hu inU11 hown hK hI (mE hE.1 eC_100) rfl 5 (by decide) u2_180 (fun _ h => h) rfl rfl dX11_text_27 ?_
      refine s_getN (host := RX11) (v := .int (G2 114 4)) hx hb hu inU5 hown hK hI (mE hE.1 eC_114) rfl 4 (by decide) (by decide) (fun _ h => h) rfl rfl dX11_text_30 ?_
      refine lv_isub hx hb dX11_text_33 ?_
      refine lv_goto (tgt := 41) hx hb dX11_text_34 (by decide) ?_
      obtain ⟨x2_16, ex2_16, hf⟩ := bnd_i hf
      refine s_nmI ex2_16 ?_
      refine lv_istore_n (lv' := [(2, .int x2_16), (1, .null), (0, .ref (ad15 100))]) hx hb dX11_text_41 rfl hl (by decide) rfl (fun ls hl => ?_)
      refine lv_aload_n hx hb dX11_text_42 rfl (lv_at hl 2 rfl) ?_
      refine lv_aload_nN hx hb dX11_text_43 rfl (lv_at hl 1 rfl) ?_
      obtain ⟨G18, O19, h17, hf⟩ := bndP_i hf
      refine s_afV hI (s_runV (rest := []) (As := [.null]) (np := 1) E hK hI (s_B hclA hBs hI) hcl.2 (mE hE.1 eC_100) rfl (c_X11_keepTextN l D K sh ad15 cy X B hcl S hE G2 L O3 h17) kyX11_keepText u2_167 u2_169 up_14 (by decide) rfl hl.1 rfl (Nat.le_of_ble_eq_true rfl) ⟨by decide, by decide⟩ dX11_text_44) (fun H locs hI => ?_)
      refine lv_aload_n hx hb dX11_text_47 rfl (lv_at hl 2 rfl) ?_
      refine s_get (v := .ref (ad15 114)) hx hb hu inU11 hown hK hI (mE hE.1 eC_100) rfl 5 (by decide) u2_180 (fun _ h => h) rfl rfl dX11_text_48 ?_
      obtain ⟨G20, h21, hf⟩ := bndO_i hf
      refine s_afV hI (s_runV (rest := []) (As := []) (np := 0) E hK hI (s_B hclA hBs hI) hcl.2 (mE hE.1 eC_114) rfl (c_X5_clear l D K sh ad15 cy X B hcl S hE G18 L O19  h21) kyX5_clear u2_171 u2_172 u2_173 (by decide) rfl hl.1 rfl (Nat.le_of_ble_eq_true rfl) ⟨by decide, by decide⟩ dX11_text_51) (fun H locs hI => ?_)
      refine lv_iload_n hx hb dX11_text_54 rfl (lv_at hl 0 rfl) ?_
      cases hf
      refine W.widen (k := 4) (n := 198) (by decide) (by decide) ?_
      exact s_iretZ E had rfl rfl hI dX11_text_55
  · have hf := ite_f c1 hf
    refine lv_bipush (v := (-4)) hx hb dX11_text_9 (by decide) ?_
    cases hf
    refine W.widen (k := 4) (n := 198) (by decide) (by decide) ?_
    exact s_iretZ E had rfl rfl hI dX11_text_11
