section LW
variable {p : Program} {l : Launch} {e : Env} {s : State} {m : MethodId} {below : List Frame} {meth : Method} {c : Code} {Q : State → Prop} {D : va_G} {KM : List Nat} {shR : Nat → Ent} {ad1 adK adV : Nat → Nat} {cy : Nat → ClassId} {b n : Nat} {xs : Nat → Int32} {B : State → Prop} {L' : MemL} {O' : MemO} {i : Int32} {RR : Nat → Nat → Mem → MemL → MemO → (Nat → Nat) → Mem → Prop}
theorem law_0 (E : Cx p s m #[Value.ref b] meth c RL cL_law 4 (some .boolean)) (hK : KS D cy s) (hclA : Bcl (AL s) B) (hBs : B s) (hSBA : ∀ U, B U → SB adK adV (AL s) U) (hCa : ∀ U, B U → CaS U) (hER : ∀ q ∈ shM, q.1 ∈ KM ∧ shR q.1 = q.2) (hX : va_X b n xs s s.heap) (hbl : b < s.heap.size) (hin : ∀ k : Int32, 0 ≤ k → k ≤ 5 → vp_in (i + k) n) (hz : ∀ z t G L O S G', RR z t G L O S G' → z ≤ 10) (hA : Ag_set RR) {ls : Array Slot} {H : Heap} {locs : List Loc} {cells slots z t : Nat} {K : List Nat} {ad2 : Nat → Nat} {S : Nat → Nat} {G G' : Mem} {L : MemL} {O : MemO} (hl : lv_has ls 4 [(0, .ref b), (1, .ref (ad2 100)), (2, .ref (ad1 0)), (3, .int i)]) (hI : IS D K (shN S) ad2 cy (wS KM shR ad1 cy G' L' O' ++ []) (AL s) s.heap H locs G L O) (hCI : CI K S O z t) (hR : RR z t G L O S G') (hcc : cells + 10 ≤ 600000) (hss : slots + 198 ≤ 7302250)
    (kk : ∀ (ad3 : Nat → Nat) (K1 : List Nat) (S1 : Nat → Nat) (z1 t1 : Nat) (G1 : Mem) (L1 : MemL) (O1 : MemO) (G1' : Mem) (H : Heap) (locs : List Loc), ad3 100 = ad2 100 → IS D K1 (shN S1) ad3 cy (wS KM shR ad1 cy G1' L' O' ++ []) (AL s) s.heap H locs G1 L1 O1 → CI K1 S1 O1 z1 t1 → RR z1 t1 G1 L1 O1 S1 G1' → W p l e room_1 s m #[Value.ref b] below meth c H locs (cells + 10) (slots + 198) Q (F0 m 1056 ls [])) : W p l e room_1 s m #[Value.ref b] below meth c H locs cells slots Q (F0 m 148 ls []) := by
  obtain ⟨hx, hb, -, hml, hown, hu, -⟩ := id E
  have hbA : ¬ AL s b := fun q => Nat.lt_irrefl _ (Nat.lt_of_lt_of_le hbl q)
  refine lv_aload_n hx hb dL_law_148 rfl (lv_at hl 1 rfl) ?_
  refine lv_aload_n hx hb dL_law_149 rfl (lv_at hl 0 rfl) ?_
  refine lv_iload_n hx hb dL_law_150 rfl (lv_at hl 3 rfl) ?_
  refine lv_iconst (v := 1) hx hb dL_law_151 (by decide) ?_
  refine lv_iadd hx hb dL_law_152 ?_
  refine va_sld hx hb hX hbl hbA hI.2.2 (hin 1 (by decide) (by decide)) dL_law_153 ?_
  refine lv_aload_n hx hb dL_law_154 rfl (lv_at hl 0 rfl) ?_
  refine lv_iload_n hx hb dL_law_155 rfl (lv_at hl 3 rfl) ?_
  refine lv_iconst (v := 2) hx hb dL_law_156 (by decide) ?_
  refine lv_iadd hx hb dL_law_157 ?_
  refine va_sld hx hb hX hbl hbA hI.2.2 (hin 2 (by decide) (by decide)) dL_law_158 ?_
  refine lv_aload_n hx hb dL_law_159 rfl (lv_at hl 0 rfl) ?_
  refine lv_iload_n hx hb dL_law_160 rfl (lv_at hl 3 rfl) ?_
  refine lv_iconst (v := 3) hx hb dL_law_161 (by decide) ?_
  refine lv_iadd hx hb dL_law_162 ?_
  refine va_sld hx hb hX hbl hbA hI.2.2 (hin 3 (by decide) (by decide)) dL_law_163 ?_
  have hAx := hA z t G L O S G' (xs (i + 1).toNatClampNeg) (xs (i + 2).toNatClampNeg) (xs (i + 3).toNatClampNeg) hR
  obtain ⟨G1, G1', v, f1, f2, hR1⟩ := hAx
  refine s_afI hI (s_runVL (rest := []) (As := [.int (xs (i + 1).toNatClampNeg), .int (xs (i + 2).toNatClampNeg), .int (xs (i + 3).toNatClampNeg)]) (np := 3) E hK hI (s_B hclA hBs hI) hclA.2 (mE hCI.1.1 eC_100) rfl (c_X11_set l D K (shN S) ad2 cy _ B (hclA.mono (s_inA hI)) S hCI.1 G L O (xs (i + 1).toNatClampNeg) (xs (i + 2).toNatClampNeg) (xs (i + 3).toNatClampNeg) f1) kyX11_set u2_212 u2_213 u2_214 (by decide) rfl hl.1 rfl (Nat.le_of_ble_eq_true rfl) ⟨by omega, by omega⟩ dL_law_164) (fun H locs hI => ?_)
  replace hI := IS_swap hI
  refine lv_aload_n hx hb dL_law_167 rfl (lv_at hl 2 rfl) ?_
  refine lv_aload_n hx hb dL_law_168 rfl (lv_at hl 0 rfl) ?_
  refine lv_iload_n hx hb dL_law_169 rfl (lv_at hl 3 rfl) ?_
  refine lv_iconst (v := 1) hx hb dL_law_170 (by decide) ?_
  refine lv_iadd hx hb dL_law_171 ?_
  refine va_sld hx hb hX hbl hbA hI.2.2 (hin 1 (by decide) (by decide)) dL_law_172 ?_
  refine lv_aload_n hx hb dL_law_173 rfl (lv_at hl 0 rfl) ?_
  refine lv_iload_n hx hb dL_law_174 rfl (lv_at hl 3 rfl) ?_
  refine lv_iconst (v := 2) hx hb dL_law_175 (by decide) ?_
  refine lv_iadd hx hb dL_law_176 ?_
  refine va_sld hx hb hX hbl hbA hI.2.2 (hin 2 (by decide) (by decide)) dL_law_177 ?_
  refine lv_aload_n hx hb dL_law_178 rfl (lv_at hl 0 rfl) ?_
  refine lv_iload_n hx hb dL_law_179 rfl (lv_at hl 3 rfl) ?_
  refine lv_iconst (v := 3) hx hb dL_law_180 (by decide) ?_
  refine lv_iadd hx hb dL_law_181 ?_
  refine va_sld hx hb hX hbl hbA hI.2.2 (hin 3 (by decide) (by decide)) dL_law_182 ?_
  refine s_afI hI (s_runVL (rest := [.int v]) (As := [.int (xs (i + 1).toNatClampNeg), .int (xs (i + 2).toNatClampNeg), .int (xs (i + 3).toNatClampNeg)]) (np := 3) E hK hI (s_B hclA hBs hI) hclA.2 (mE hER eM_0) rfl (c_X12_set l D KM shR ad1 cy _ B (hclA.mono (s_inA hI)) hER G' L' O' (xs (i + 1).toNatClampNeg) (xs (i + 2).toNatClampNeg) (xs (i + 3).toNatClampNeg) f2) kyX12_set u5_124 u5_125 u5_126 (by decide) rfl hl.1 rfl (Nat.le_of_ble_eq_true rfl) ⟨by omega, by omega⟩ dL_law_183) (fun H locs hI => ?_)
  replace hI := IS_swap hI
  refine lv_icmp_eq (tgt := 1056) hx hb dL_law_186 (by decide) (fun _ => ?_) (fun c => absurd rfl c)
  refine W.widen (by omega) (by omega) (kk ad2 K S z t G1 L O G1' _ _ rfl hI hCI hR1)
theorem law_1 (E : Cx p s m #[Value.ref b] meth c RL cL_law 4 (some .boolean)) (hK : KS D cy s) (hclA : Bcl (AL s) B) (hBs : B s) (hSBA : ∀ U, B U → SB adK adV (AL s) U) (hCa : ∀ U, B U → CaS U) (hER : ∀ q ∈ shM, q.1 ∈ KM ∧ shR q.1 = q.2) (hX : va_X b n xs s s.heap) (hbl : b < s.heap.size) (hin : ∀ k : Int32, 0 ≤ k → k ≤ 5 → vp_in (i + k) n) (hz : ∀ z t G L O S G', RR z t G L O S G' → z ≤ 10) (hA : Ag_singer RR) {ls : Array Slot} {H : Heap} {locs : List Loc} {cells slots z t : Nat} {K : List Nat} {ad2 : Nat → Nat} {S : Nat → Nat} {G G' : Mem} {L : MemL} {O : MemO} (hl : lv_has ls 4 [(0, .ref b), (1, .ref (ad2 100)), (2, .ref (ad1 0)), (3, .int i)]) (hI : IS D K (shN S) ad2 cy (wS KM shR ad1 cy G' L' O' ++ []) (AL s) s.heap H locs G L O) (hCI : CI K S O z t) (hR : RR z t G L O S G') (hcc : cells + 10 ≤ 600000) (hss : slots + 198 ≤ 7302250)
    (kk : ∀ (ad3 : Nat → Nat) (K1 : List Nat) (S1 : Nat → Nat) (z1 t1 : Nat) (G1 : Mem) (L1 : MemL) (O1 : MemO) (G1' : Mem) (H : Heap) (locs : List Loc), ad3 100 = ad2 100 → IS D K1 (shN S1) ad3 cy (wS KM shR ad1 cy G1' L' O' ++ []) (AL s) s.heap H locs G1 L1 O1 → CI K1 S1 O1 z1 t1 → RR z1 t1 G1 L1 O1 S1 G1' → W p l e room_1 s m #[Value.ref b] below meth c H locs (cells + 10) (slots + 198) Q (F0 m 1056 ls [])) : W p l e room_1 s m #[Value.ref b] below meth c H locs cells slots Q (F0 m 191 ls []) := by
  obtain ⟨hx, hb, -, hml, hown, hu, -⟩ := id E
  have hbA : ¬ AL s b := fun q => Nat.lt_irrefl _ (Nat.lt_of_lt_of_le hbl q)
  refine lv_aload_n hx hb dL_law_191 rfl (lv_at hl 1 rfl) ?_
  refine lv_aload_n hx hb dL_law_192 rfl (lv_at hl 0 rfl) ?_
  refine lv_iload_n hx hb dL_law_193 rfl (lv_at hl 3 rfl) ?_
  refine lv_iconst (v := 1) hx hb dL_law_194 (by decide) ?_
  refine lv_iadd hx hb dL_law_195 ?_
  refine va_sld hx hb hX hbl hbA hI.2.2 (hin 1 (by decide) (by decide)) dL_law_196 ?_
  refine lv_aload_n hx hb dL_law_197 rfl (lv_at hl 0 rfl) ?_
  refine lv_iload_n hx hb dL_law_198 rfl (lv_at hl 3 rfl) ?_
  refine lv_iconst (v := 2) hx hb dL_law_199 (by decide) ?_
  refine lv_iadd hx hb dL_law_200 ?_
  refine va_sld hx hb hX hbl hbA hI.2.2 (hin 2 (by decide) (by decide)) dL_law_201 ?_
  refine lv_aload_n hx hb dL_law_202 rfl (lv_at hl 0 rfl) ?_
  refine lv_iload_n hx hb dL_law_203 rfl (lv_at hl 3 rfl) ?_
  refine lv_iconst (v := 3) hx hb dL_law_204 (by decide) ?_
  refine lv_iadd hx hb dL_law_205 ?_
  refine va_sld hx hb hX hbl hbA hI.2.2 (hin 3 (by decide) (by decide)) dL_law_206 ?_
  have hAx := hA z t G L O S G' (xs (i + 1).toNatClampNeg) (xs (i + 2).toNatClampNeg) (xs (i + 3).toNatClampNeg) hR
  obtain ⟨S1, G1, O1, nz, G1', v, f1, f2, hR1⟩ := hAx
  have hz1 := hz _ _ _ _ _ _ _ hR
  obtain ⟨hC1, hsh⟩ := CI_singer hCI (by omega) f1
  have hen : 1000 ≤ 1000 + z ∧ 1000 + z < 2000 := by omega
  have hnK : 1000 + z ∉ K := CI_fr hCI (Nat.le_refl _) (by omega)
  have eS : shSg (upS S (1000 + z) (kcl (xs (i + 1).toNatClampNeg))) (shN S) = shN (upS S (1000 + z) (kcl (xs (i + 1).toNatClampNeg))) := shSg_N (fun b hb => upS_n (by omega))
  have hH1 : HC S K (shN (upS S (1000 + z) (kcl (xs (i + 1).toNatClampNeg)))) := by rw [← eS]; exact HC_up (by rw [shN_Sg]; exact hCI.1) hnK hen
  have hL1 : Cl K (shN (upS S (1000 + z) (kcl (xs (i + 1).toNatClampNeg)))) := by rw [← eS]; exact Cl_up (by rw [shN_Sg]; exact hCI.2.1) hnK
  replace hI := IS_sh (sh2 := shN (upS S (1000 + z) (kcl (xs (i + 1).toNatClampNeg)))) (fun k hk => by rw [shN_S (upS_n (fun (e : k = 1000 + z) => hnK (by rw [← e]; exact hk)))]) hI
  refine s_afZ (fun q h => h) hI (s_runVzL (rest := []) (As := [.int (xs (i + 1).toNatClampNeg), .int (xs (i + 2).toNatClampNeg), .int (xs (i + 3).toNatClampNeg)]) (np := 3) E hK hI (s_B hclA hBs hI) hclA.2 (mE hH1.1 eC_100) rfl (c_X11_singer l D K _ ad2 cy _ B H.size (hclA.mono (AZ_in hI (fun q h => h))) hL1 S G L O (xs (i + 1).toNatClampNeg) (xs (i + 2).toNatClampNeg) (xs (i + 3).toNatClampNeg) hCa (1000 + z) hen hnK hH1 (by rw [shN_sg hen, upS_e]) hCI.2.2.1 f1) kyX11_singer u2_222 u2_223 u2_224 (by decide) rfl hl.1 rfl (Nat.le_of_ble_eq_true rfl) ⟨by omega, by omega⟩ dL_law_207) (fun ad3 sh3 H locs had hHy hI => ?_)
  subst hHy
  replace hI := IS_sh (sh2 := shN S1) (fun k hk => by rw [hsh k hk]) hI
  replace had := had 100 (mE hH1.1 eC_100).1
  replace hI := IS_swap hI
  refine lv_aload_n hx hb dL_law_210 rfl (lv_at hl 2 rfl) ?_
  refine lv_aload_n hx hb dL_law_211 rfl (lv_at hl 0 rfl) ?_
  refine lv_iload_n hx hb dL_law_212 rfl (lv_at hl 3 rfl) ?_
  refine lv_iconst (v := 1) hx hb dL_law_213 (by decide) ?_
  refine lv_iadd hx hb dL_law_214 ?_
  refine va_sld hx hb hX hbl hbA hI.2.2 (hin 1 (by decide) (by decide)) dL_law_215 ?_
  refine lv_aload_n hx hb dL_law_216 rfl (lv_at hl 0 rfl) ?_
  refine lv_iload_n hx hb dL_law_217 rfl (lv_at hl 3 rfl) ?_
  refine lv_iconst (v := 2) hx hb dL_law_218 (by decide) ?_
  refine lv_iadd hx hb dL_law_219 ?_
  refine va_sld hx hb hX hbl hbA hI.2.2 (hin 2 (by decide) (by decide)) dL_law_220 ?_
  refine lv_aload_n hx hb dL_law_221 rfl (lv_at hl 0 rfl) ?_
  refine lv_iload_n hx hb dL_law_222 rfl (lv_at hl 3 rfl) ?_
  refine lv_iconst (v := 3) hx hb dL_law_223 (by decide) ?_
  refine lv_iadd hx hb dL_law_224 ?_
  refine va_sld hx hb hX hbl hbA hI.2.2 (hin 3 (by decide) (by decide)) dL_law_225 ?_
  refine s_afI hI (s_runVL (rest := [.int v]) (As := [.int (xs (i + 1).toNatClampNeg), .int (xs (i + 2).toNatClampNeg), .int (xs (i + 3).toNatClampNeg)]) (np := 3) E hK hI (s_B hclA hBs hI) hclA.2 (mE hER eM_0) rfl (c_X12_singer l D KM shR ad1 cy _ B (hclA.mono (s_inA hI)) hER G' L' O' (xs (i + 1).toNatClampNeg) (xs (i + 2).toNatClampNeg) (xs (i + 3).toNatClampNeg) f2) kyX12_singer u5_131 u5_132 u5_133 (by decide) rfl hl.1 rfl (Nat.le_of_ble_eq_true rfl) ⟨by omega, by omega⟩ dL_law_226) (fun H locs hI => ?_)
  replace hI := IS_swap hI
  refine lv_icmp_eq (tgt := 1056) hx hb dL_law_229 (by decide) (fun _ => ?_) (fun c => absurd rfl c)
  refine W.widen (by omega) (by omega) (kk ad3 _ S1 (z + nz) t G1 L O1 G1' _ _ had hI hC1 hR1)
theorem law_2 (E : Cx p s m #[Value.ref b] meth c RL cL_law 4 (some .boolean)) (hK : KS D cy s) (hclA : Bcl (AL s) B) (hBs : B s) (hSBA : ∀ U, B U → SB adK adV (AL s) U) (hCa : ∀ U, B U → CaS U) (hER : ∀ q ∈ shM, q.1 ∈ KM ∧ shR q.1 = q.2) (hX : va_X b n xs s s.heap) (hbl : b < s.heap.size) (hin : ∀ k : Int32, 0 ≤ k → k ≤ 5 → vp_in (i + k) n) (hz : ∀ z t G L O S G', RR z t G L O S G' → z ≤ 10) (hA : Ag_voice RR) {ls : Array Slot} {H : Heap} {locs : List Loc} {cells slots z t : Nat} {K : List Nat} {ad2 : Nat → Nat} {S : Nat → Nat} {G G' : Mem} {L : MemL} {O : MemO} (hl : lv_has ls 4 [(0, .ref b), (1, .ref (ad2 100)), (2, .ref (ad1 0)), (3, .int i)]) (hI : IS D K (shN S) ad2 cy (wS KM shR ad1 cy G' L' O' ++ []) (AL s) s.heap H locs G L O) (hCI : CI K S O z t) (hR : RR z t G L O S G') (hcc : cells + 10 ≤ 600000) (hss : slots + 198 ≤ 7302250)
    (kk : ∀ (ad3 : Nat → Nat) (K1 : List Nat) (S1 : Nat → Nat) (z1 t1 : Nat) (G1 : Mem) (L1 : MemL) (O1 : MemO) (G1' : Mem) (H : Heap) (locs : List Loc), ad3 100 = ad2 100 → IS D K1 (shN S1) ad3 cy (wS KM shR ad1 cy G1' L' O' ++ []) (AL s) s.heap H locs G1 L1 O1 → CI K1 S1 O1 z1 t1 → RR z1 t1 G1 L1 O1 S1 G1' → W p l e room_1 s m #[Value.ref b] below meth c H locs (cells + 10) (slots + 198) Q (F0 m 1056 ls [])) : W p l e room_1 s m #[Value.ref b] below meth c H locs cells slots Q (F0 m 234 ls []) := by
  obtain ⟨hx, hb, -, hml, hown, hu, -⟩ := id E
  have hbA : ¬ AL s b := fun q => Nat.lt_irrefl _ (Nat.lt_of_lt_of_le hbl q)
  refine lv_aload_n hx hb dL_law_234 rfl (lv_at hl 1 rfl) ?_
  refine lv_aload_n hx hb dL_law_235 rfl (lv_at hl 0 rfl) ?_
  refine lv_iload_n hx hb dL_law_236 rfl (lv_at hl 3 rfl) ?_
  refine lv_iconst (v := 1) hx hb dL_law_237 (by decide) ?_
  refine lv_iadd hx hb dL_law_238 ?_
  refine va_sld hx hb hX hbl hbA hI.2.2 (hin 1 (by decide) (by decide)) dL_law_239 ?_
  refine lv_aload_n hx hb dL_law_240 rfl (lv_at hl 0 rfl) ?_
  refine lv_iload_n hx hb dL_law_241 rfl (lv_at hl 3 rfl) ?_
  refine lv_iconst (v := 2) hx hb dL_law_242 (by decide) ?_
  refine lv_iadd hx hb dL_law_243 ?_
  refine va_sld hx hb hX hbl hbA hI.2.2 (hin 2 (by decide) (by decide)) dL_law_244 ?_
  have hAx := hA z t G L O S G' (xs (i + 1).toNatClampNeg) (xs (i + 2).toNatClampNeg) hR
  obtain ⟨G1, G1', v, f1, f2, hR1⟩ := hAx
  refine s_afI hI (s_runVL (rest := []) (As := [.int (xs (i + 1).toNatClampNeg), .int (xs (i + 2).toNatClampNeg)]) (np := 2) E hK hI (s_B hclA hBs hI) hclA.2 (mE hCI.1.1 eC_100) rfl (c_X11_voice l D K (shN S) ad2 cy _ B (hclA.mono (s_inA hI)) S hCI.1 G L O (xs (i + 1).toNatClampNeg) (xs (i + 2).toNatClampNeg) f1) kyX11_voice u3_60 u3_61 u3_62 (by decide) rfl hl.1 rfl (Nat.le_of_ble_eq_true rfl) ⟨by omega, by omega⟩ dL_law_245) (fun H locs hI => ?_)
  replace hI := IS_swap hI
  refine lv_aload_n hx hb dL_law_248 rfl (lv_at hl 2 rfl) ?_
  refine lv_aload_n hx hb dL_law_249 rfl (lv_at hl 0 rfl) ?_
  refine lv_iload_n hx hb dL_law_250 rfl (lv_at hl 3 rfl) ?_
  refine lv_iconst (v := 1) hx hb dL_law_251 (by decide) ?_
  refine lv_iadd hx hb dL_law_252 ?_
  refine va_sld hx hb hX hbl hbA hI.2.2 (hin 1 (by decide) (by decide)) dL_law_253 ?_
  refine lv_aload_n hx hb dL_law_254 rfl (lv_at hl 0 rfl) ?_
  refine lv_iload_n hx hb dL_law_255 rfl (lv_at hl 3 rfl) ?_
  refine lv_iconst (v := 2) hx hb dL_law_256 (by decide) ?_
  refine lv_iadd hx hb dL_law_257 ?_
  refine va_sld hx hb hX hbl hbA hI.2.2 (hin 2 (by decide) (by decide)) dL_law_258 ?_
  refine s_afI hI (s_runVL (rest := [.int v]) (As := [.int (xs (i + 1).toNatClampNeg), .int (xs (i + 2).toNatClampNeg)]) (np := 2) E hK hI (s_B hclA hBs hI) hclA.2 (mE hER eM_0) rfl (c_X12_voice l D KM shR ad1 cy _ B (hclA.mono (s_inA hI)) hER G' L' O' (xs (i + 1).toNatClampNeg) (xs (i + 2).toNatClampNeg) f2) kyX12_voice u5_135 u5_136 u5_137 (by decide) rfl hl.1 rfl (Nat.le_of_ble_eq_true rfl) ⟨by omega, by omega⟩ dL_law_259) (fun H locs hI => ?_)
  replace hI := IS_swap hI
  refine lv_icmp_eq (tgt := 1056) hx hb dL_law_262 (by decide) (fun _ => ?_) (fun c => absurd rfl c)
  refine W.widen (by omega) (by omega) (kk ad2 K S z t G1 L O G1' _ _ rfl hI hCI hR1)
theorem law_3 (E : Cx p s m #[Value.ref b] meth c RL cL_law 4 (some .boolean)) (hK : KS D cy s) (hclA : Bcl (AL s) B) (hBs : B s) (hSBA : ∀ U, B U → SB adK adV (AL s) U) (hCa : ∀ U, B U → CaS U) (hER : ∀ q ∈ shM, q.1 ∈ KM ∧ shR q.1 = q.2) (hX : va_X b n xs s s.heap) (hbl : b < s.heap.size) (hin : ∀ k : Int32, 0 ≤ k → k ≤ 5 → vp_in (i + k) n) (hz : ∀ z t G L O S G', RR z t G L O S G' → z ≤ 10) (hA : Ag_told RR) {ls : Array Slot} {H : Heap} {locs : List Loc} {cells slots z t : Nat} {K : List Nat} {ad2 : Nat → Nat} {S : Nat → Nat} {G G' : Mem} {L : MemL} {O : MemO} (hl : lv_has ls 4 [(0, .ref b), (1, .ref (ad2 100)), (2, .ref (ad1 0)), (3, .int i)]) (hI : IS D K (shN S) ad2 cy (wS KM shR ad1 cy G' L' O' ++ []) (AL s) s.heap H locs G L O) (hCI : CI K S O z t) (hR : RR z t G L O S G') (hcc : cells + 10 ≤ 600000) (hss : slots + 198 ≤ 7302250)
    (kk : ∀ (ad3 : Nat → Nat) (K1 : List Nat) (S1 : Nat → Nat) (z1 t1 : Nat) (G1 : Mem) (L1 : MemL) (O1 : MemO) (G1' : Mem) (H : Heap) (locs : List Loc), ad3 100 = ad2 100 → IS D K1 (shN S1) ad3 cy (wS KM shR ad1 cy G1' L' O' ++ []) (AL s) s.heap H locs G1 L1 O1 → CI K1 S1 O1 z1 t1 → RR z1 t1 G1 L1 O1 S1 G1' → W p l e room_1 s m #[Value.ref b] below meth c H locs (cells + 10) (slots + 198) Q (F0 m 1056 ls [])) : W p l e room_1 s m #[Value.ref b] below meth c H locs cells slots Q (F0 m 267 ls []) := by
  obtain ⟨hx, hb, -, hml, hown, hu, -⟩ := id E
  have hbA : ¬ AL s b := fun q => Nat.lt_irrefl _ (Nat.lt_of_lt_of_le hbl q)
  refine lv_aload_n hx hb dL_law_267 rfl (lv_at hl 1 rfl) ?_
  refine lv_aload_n hx hb dL_law_268 rfl (lv_at hl 0 rfl) ?_
  refine lv_iload_n hx hb dL_law_269 rfl (lv_at hl 3 rfl) ?_
  refine lv_iconst (v := 1) hx hb dL_law_270 (by decide) ?_
  refine lv_iadd hx hb dL_law_271 ?_
  refine va_sld hx hb hX hbl hbA hI.2.2 (hin 1 (by decide) (by decide)) dL_law_272 ?_
  refine lv_aload_n hx hb dL_law_273 rfl (lv_at hl 0 rfl) ?_
  refine lv_iload_n hx hb dL_law_274 rfl (lv_at hl 3 rfl) ?_
  refine lv_iconst (v := 2) hx hb dL_law_275 (by decide) ?_
  refine lv_iadd hx hb dL_law_276 ?_
  refine va_sld hx hb hX hbl hbA hI.2.2 (hin 2 (by decide) (by decide)) dL_law_277 ?_
  refine lv_aload_n hx hb dL_law_278 rfl (lv_at hl 0 rfl) ?_
  refine lv_iload_n hx hb dL_law_279 rfl (lv_at hl 3 rfl) ?_
  refine lv_iconst (v := 3) hx hb dL_law_280 (by decide) ?_
  refine lv_iadd hx hb dL_law_281 ?_
  refine va_sld hx hb hX hbl hbA hI.2.2 (hin 3 (by decide) (by decide)) dL_law_282 ?_
  refine lv_aload_n hx hb dL_law_283 rfl (lv_at hl 0 rfl) ?_
  refine lv_iload_n hx hb dL_law_284 rfl (lv_at hl 3 rfl) ?_
  refine lv_iconst (v := 4) hx hb dL_law_285 (by decide) ?_
  refine lv_iadd hx hb dL_law_286 ?_
  refine va_sld hx hb hX hbl hbA hI.2.2 (hin 4 (by decide) (by decide)) dL_law_287 ?_
  have hAx := hA z t G L O S G' (xs (i + 1).toNatClampNeg) (xs (i + 2).toNatClampNeg) (xs (i + 3).toNatClampNeg) (xs (i + 4).toNatClampNeg) hR
  obtain ⟨v, f1, f2, hR1⟩ := hAx
  refine s_afI hI (s_runVL (rest := []) (As := [.int (xs (i + 1).toNatClampNeg), .int (xs (i + 2).toNatClampNeg), .int (xs (i + 3).toNatClampNeg), .int (xs (i + 4).toNatClampNeg)]) (np := 4) E hK hI (s_B hclA hBs hI) hclA.2 (mE hCI.1.1 eC_100) rfl (c_X11_told l D K (shN S) ad2 cy _ B (hclA.mono (s_inA hI)) S hCI.1 G L O (xs (i + 1).toNatClampNeg) (xs (i + 2).toNatClampNeg) (xs (i + 3).toNatClampNeg) (xs (i + 4).toNatClampNeg) f1) kyX11_told u3_64 u3_65 u3_66 (by decide) rfl hl.1 rfl (Nat.le_of_ble_eq_true rfl) ⟨by omega, by omega⟩ dL_law_288) (fun H locs hI => ?_)
  replace hI := IS_swap hI
  refine lv_aload_n hx hb dL_law_291 rfl (lv_at hl 2 rfl) ?_
  refine lv_aload_n hx hb dL_law_292 rfl (lv_at hl 0 rfl) ?_
  refine lv_iload_n hx hb dL_law_293 rfl (lv_at hl 3 rfl) ?_
  refine lv_iconst (v := 1) hx hb dL_law_294 (by decide) ?_
  refine lv_iadd hx hb dL_law_295 ?_
  refine va_sld hx hb hX hbl hbA hI.2.2 (hin 1 (by decide) (by decide)) dL_law_296 ?_
  refine lv_aload_n hx hb dL_law_297 rfl (lv_at hl 0 rfl) ?_
  refine lv_iload_n hx hb dL_law_298 rfl (lv_at hl 3 rfl) ?_
  refine lv_iconst (v := 2) hx hb dL_law_299 (by decide) ?_
  refine lv_iadd hx hb dL_law_300 ?_
  refine va_sld hx hb hX hbl hbA hI.2.2 (hin 2 (by decide) (by decide)) dL_law_301 ?_
  refine lv_aload_n hx hb dL_law_302 rfl (lv_at hl 0 rfl) ?_
  refine lv_iload_n hx hb dL_law_303 rfl (lv_at hl 3 rfl) ?_
  refine lv_iconst (v := 3) hx hb dL_law_304 (by decide) ?_
  refine lv_iadd hx hb dL_law_305 ?_
  refine va_sld hx hb hX hbl hbA hI.2.2 (hin 3 (by decide) (by decide)) dL_law_306 ?_
  refine lv_aload_n hx hb dL_law_307 rfl (lv_at hl 0 rfl) ?_
  refine lv_iload_n hx hb dL_law_308 rfl (lv_at hl 3 rfl) ?_
  refine lv_iconst (v := 4) hx hb dL_law_309 (by decide) ?_
  refine lv_iadd hx hb dL_law_310 ?_
  refine va_sld hx hb hX hbl hbA hI.2.2 (hin 4 (by decide) (by decide)) dL_law_311 ?_
  refine s_afI hI (s_runVL (rest := [.int v]) (As := [.int (xs (i + 1).toNatClampNeg), .int (xs (i + 2).toNatClampNeg), .int (xs (i + 3).toNatClampNeg), .int (xs (i + 4).toNatClampNeg)]) (np := 4) E hK hI (s_B hclA hBs hI) hclA.2 (mE hER eM_0) rfl (c_X12_told l D KM shR ad1 cy _ B (hclA.mono (s_inA hI)) hER G' L' O' (xs (i + 1).toNatClampNeg) (xs (i + 2).toNatClampNeg) (xs (i + 3).toNatClampNeg) (xs (i + 4).toNatClampNeg) f2) kyX12_told u5_143 u5_144 u5_145 (by decide) rfl hl.1 rfl (Nat.le_of_ble_eq_true rfl) ⟨by omega, by omega⟩ dL_law_312) (fun H locs hI => ?_)
  replace hI := IS_swap hI
  refine lv_icmp_eq (tgt := 1056) hx hb dL_law_315 (by decide) (fun _ => ?_) (fun c => absurd rfl c)
  refine W.widen (by omega) (by omega) (kk ad2 K S z t G L O G' _ _ rfl hI hCI hR1)
theorem law_4 (E : Cx p s m #[Value.ref b] meth c RL cL_law 4 (some .boolean)) (hK : KS D cy s) (hclA : Bcl (AL s) B) (hBs : B s) (hSBA : ∀ U, B U → SB adK adV (AL s) U) (hCa : ∀ U, B U → CaS U) (hER : ∀ q ∈ shM, q.1 ∈ KM ∧ shR q.1 = q.2) (hX : va_X b n xs s s.heap) (hbl : b < s.heap.size) (hin : ∀ k : Int32, 0 ≤ k → k ≤ 5 → vp_in (i + k) n) (hz : ∀ z t G L O S G', RR z t G L O S G' → z ≤ 10) (hA : Ag_feed RR) {ls : Array Slot} {H : Heap} {locs : List Loc} {cells slots z t : Nat} {K : List Nat} {ad2 : Nat → Nat} {S : Nat → Nat} {G G' : Mem} {L : MemL} {O : MemO} (hl : lv_has ls 4 [(0, .ref b), (1, .ref (ad2 100)), (2, .ref (ad1 0)), (3, .int i)]) (hI : IS D K (shN S) ad2 cy (wS KM shR ad1 cy G' L' O' ++ []) (AL s) s.heap H locs G L O) (hCI : CI K S O z t) (hR : RR z t G L O S G') (hcc : cells + 10 ≤ 600000) (hss : slots + 198 ≤ 7302250)
    (kk : ∀ (ad3 : Nat → Nat) (K1 : List Nat) (S1 : Nat → Nat) (z1 t1 : Nat) (G1 : Mem) (L1 : MemL) (O1 : MemO) (G1' : Mem) (H : Heap) (locs : List Loc), ad3 100 = ad2 100 → IS D K1 (shN S1) ad3 cy (wS KM shR ad1 cy G1' L' O' ++ []) (AL s) s.heap H locs G1 L1 O1 → CI K1 S1 O1 z1 t1 → RR z1 t1 G1 L1 O1 S1 G1' → W p l e room_1 s m #[Value.ref b] below meth c H locs (cells + 10) (slots + 198) Q (F0 m 1056 ls [])) : W p l e room_1 s m #[Value.ref b] below meth c H locs cells slots Q (F0 m 320 ls []) := by
  obtain ⟨hx, hb, -, hml, hown, hu, -⟩ := id E
  have hbA : ¬ AL s b := fun q => Nat.lt_irrefl _ (Nat.lt_of_lt_of_le hbl q)
  refine lv_aload_n hx hb dL_law_320 rfl (lv_at hl 1 rfl) ?_
  refine lv_aload_n hx hb dL_law_321 rfl (lv_at hl 0 rfl) ?_
  refine lv_iload_n hx hb dL_law_322 rfl (lv_at hl 3 rfl) ?_
  refine lv_iconst (v := 1) hx hb dL_law_323 (by decide) ?_
  refine lv_iadd hx hb dL_law_324 ?_
  refine va_sld hx hb hX hbl hbA hI.2.2 (hin 1 (by decide) (by decide)) dL_law_325 ?_
  refine lv_aload_n hx hb dL_law_326 rfl (lv_at hl 0 rfl) ?_
  refine lv_iload_n hx hb dL_law_327 rfl (lv_at hl 3 rfl) ?_
  refine lv_iconst (v := 2) hx hb dL_law_328 (by decide) ?_
  refine lv_iadd hx hb dL_law_329 ?_
  refine va_sld hx hb hX hbl hbA hI.2.2 (hin 2 (by decide) (by decide)) dL_law_330 ?_
  refine lv_i2l (v := ((xs (i + 2).toNatClampNeg).toInt64)) hx hb dL_law_331 rfl ?_
  refine lv_bipush (v := 32) hx hb dL_law_332 (by decide) ?_
  refine lv_lshl (v := (((xs (i + 2).toNatClampNeg).toInt64) <<< ((32 : Int32).toInt64 &&& 63))) hx hb dL_law_334 rfl ?_
  refine lv_aload_n hx hb dL_law_335 rfl (lv_at hl 0 rfl) ?_
  refine lv_iload_n hx hb dL_law_336 rfl (lv_at hl 3 rfl) ?_
  refine lv_iconst (v := 3) hx hb dL_law_337 (by decide) ?_
  refine lv_iadd hx hb dL_law_338 ?_
  refine va_sld hx hb hX hbl hbA hI.2.2 (hin 3 (by decide) (by decide)) dL_law_339 ?_
  refine lv_i2l (v := ((xs (i + 3).toNatClampNeg).toInt64)) hx hb dL_law_340 rfl ?_
  refine lv_ldc2 (v := 4294967295) hx hb hown (hu _ u6_148) dL_law_341 ?_
  refine lv_land hx hb dL_law_344 ?_
  refine lv_lor hx hb dL_law_345 ?_
  have hAx := hA z t G L O S G' (xs (i + 1).toNatClampNeg) ((((xs (i + 2).toNatClampNeg).toInt64) <<< ((32 : Int32).toInt64 &&& 63)) ||| (((xs (i + 3).toNatClampNeg).toInt64) &&& 4294967295)) hR
  obtain ⟨G1, G1', v, f1, f2, hR1⟩ := hAx
  refine s_afI hI (s_runVL (rest := []) (As := [.int (xs (i + 1).toNatClampNeg), .long ((((xs (i + 2).toNatClampNeg).toInt64) <<< ((32 : Int32).toInt64 &&& 63)) ||| (((xs (i + 3).toNatClampNeg).toInt64) &&& 4294967295))]) (np := 2) E hK hI (s_B hclA hBs hI) hclA.2 (mE hCI.1.1 eC_100) rfl (c_X11_feed l D K (shN S) ad2 cy _ B (hclA.mono (s_inA hI)) S hCI.1 G L O (xs (i + 1).toNatClampNeg) ((((xs (i + 2).toNatClampNeg).toInt64) <<< ((32 : Int32).toInt64 &&& 63)) ||| (((xs (i + 3).toNatClampNeg).toInt64) &&& 4294967295)) f1) kyX11_feed u3_163 u3_164 u3_165 (by decide) rfl hl.1 rfl (Nat.le_of_ble_eq_true rfl) ⟨by omega, by omega⟩ dL_law_346) (fun H locs hI => ?_)
  replace hI := IS_swap hI
  refine lv_aload_n hx hb dL_law_349 rfl (lv_at hl 2 rfl) ?_
  refine lv_aload_n hx hb dL_law_350 rfl (lv_at hl 0 rfl) ?_
  refine lv_iload_n hx hb dL_law_351 rfl (lv_at hl 3 rfl) ?_
  refine lv_iconst (v := 1) hx hb dL_law_352 (by decide) ?_
  refine lv_iadd hx hb dL_law_353 ?_
  refine va_sld hx hb hX hbl hbA hI.2.2 (hin 1 (by decide) (by decide)) dL_law_354 ?_
  refine lv_aload_n hx hb dL_law_355 rfl (lv_at hl 0 rfl) ?_
  refine lv_iload_n hx hb dL_law_356 rfl (lv_at hl 3 rfl) ?_
  refine lv_iconst (v := 2) hx hb dL_law_357 (by decide) ?_
  refine lv_iadd hx hb dL_law_358 ?_
  refine va_sld hx hb hX hbl hbA hI.2.2 (hin 2 (by decide) (by decide)) dL_law_359 ?_
  refine lv_i2l (v := ((xs (i + 2).toNatClampNeg).toInt64)) hx hb dL_law_360 rfl ?_
  refine lv_bipush (v := 32) hx hb dL_law_361 (by decide) ?_
  refine lv_lshl (v := (((xs (i + 2).toNatClampNeg).toInt64) <<< ((32 : Int32).toInt64 &&& 63))) hx hb dL_law_363 rfl ?_
  refine lv_aload_n hx hb dL_law_364 rfl (lv_at hl 0 rfl) ?_
  refine lv_iload_n hx hb dL_law_365 rfl (lv_at hl 3 rfl) ?_
  refine lv_iconst (v := 3) hx hb dL_law_366 (by decide) ?_
  refine lv_iadd hx hb dL_law_367 ?_
  refine va_sld hx hb hX hbl hbA hI.2.2 (hin 3 (by decide) (by decide)) dL_law_368 ?_
  refine lv_i2l (v := ((xs (i + 3).toNatClampNeg).toInt64)) hx hb dL_law_369 rfl ?_
  refine lv_ldc2 (v := 4294967295) hx hb hown (hu _ u6_148) dL_law_370 ?_
  refine lv_land hx hb dL_law_373 ?_
  refine lv_lor hx hb dL_law_374 ?_
  refine s_afI hI (s_runVL (rest := [.int v]) (As := [.int (xs (i + 1).toNatClampNeg), .long ((((xs (i + 2).toNatClampNeg).toInt64) <<< ((32 : Int32).toInt64 &&& 63)) ||| (((xs (i + 3).toNatClampNeg).toInt64) &&& 4294967295))]) (np := 2) E hK hI (s_B hclA hBs hI) hclA.2 (mE hER eM_0) rfl (c_X12_feed l D KM shR ad1 cy _ B (hclA.mono (s_inA hI)) hER G' L' O' (xs (i + 1).toNatClampNeg) ((((xs (i + 2).toNatClampNeg).toInt64) <<< ((32 : Int32).toInt64 &&& 63)) ||| (((xs (i + 3).toNatClampNeg).toInt64) &&& 4294967295)) f2) kyX12_feed u5_159 u5_160 u5_161 (by decide) rfl hl.1 rfl (Nat.le_of_ble_eq_true rfl) ⟨by omega, by omega⟩ dL_law_375) (fun H locs hI => ?_)
  replace hI := IS_swap hI
  refine lv_icmp_eq (tgt := 1056) hx hb dL_law_378 (by decide) (fun _ => ?_) (fun c => absurd rfl c)
  refine W.widen (by omega) (by omega) (kk ad2 K S z t G1 L O G1' _ _ rfl hI hCI hR1)
theorem law_5 (E : Cx p s m #[Value.ref b] meth c RL cL_law 4 (some .boolean)) (hK : KS D cy s) (hclA : Bcl (AL s) B) (hBs : B s) (hSBA : ∀ U, B U → SB adK adV (AL s) U) (hCa : ∀ U, B U → CaS U) (hER : ∀ q ∈ shM, q.1 ∈ KM ∧ shR q.1 = q.2) (hX : va_X b n xs s s.heap) (hbl : b < s.heap.size) (hin : ∀ k : Int32, 0 ≤ k → k ≤ 5 → vp_in (i + k) n) (hz : ∀ z t G L O S G', RR z t G L O S G' → z ≤ 10) (hA : Ag_text RR) {ls : Array Slot} {H : Heap} {locs : List Loc} {cells slots z t : Nat} {K : List Nat} {ad2 : Nat → Nat} {S : Nat → Nat} {G G' : Mem} {L : MemL} {O : MemO} (hl : lv_has ls 4 [(0, .ref b), (1, .ref (ad2 100)), (2, .ref (ad1 0)), (3, .int i)]) (hI : IS D K (shN S) ad2 cy (wS KM shR ad1 cy G' L' O' ++ []) (AL s) s.heap H locs G L O) (hCI : CI K S O z t) (hR : RR z t G L O S G') (hcc : cells + 10 ≤ 600000) (hss : slots + 198 ≤ 7302250)
    (kk : ∀ (ad3 : Nat → Nat) (K1 : List Nat) (S1 : Nat → Nat) (z1 t1 : Nat) (G1 : Mem) (L1 : MemL) (O1 : MemO) (G1' : Mem) (H : Heap) (locs : List Loc), ad3 100 = ad2 100 → IS D K1 (shN S1) ad3 cy (wS KM shR ad1 cy G1' L' O' ++ []) (AL s) s.heap H locs G1 L1 O1 → CI K1 S1 O1 z1 t1 → RR z1 t1 G1 L1 O1 S1 G1' → W p l e room_1 s m #[Value.ref b] below meth c H locs (cells + 10) (slots + 198) Q (F0 m 1056 ls [])) : W p l e room_1 s m #[Value.ref b] below meth c H locs cells slots Q (F0 m 383 ls []) := by
  obtain ⟨hx, hb, -, hml, hown, hu, -⟩ := id E
  have hbA : ¬ AL s b := fun q => Nat.lt_irrefl _ (Nat.lt_of_lt_of_le hbl q)
  refine lv_aload_n hx hb dL_law_383 rfl (lv_at hl 1 rfl) ?_
  have hAx := hA K z t G L O S G'  hCI hR
  obtain ⟨ln, S1, G1, O1, nz, G1', v, f1, f2, hS1, hC1, hR1⟩ := hAx
  have htx : 2000 ≤ 2000 + 4 * t ∧ (2000 + 4 * t) % 4 = 0 := ⟨by omega, by omega⟩
  have hn0 : 2000 + 4 * t ∉ K := CI_ft hCI (by omega)
  have hn1 : 2000 + 4 * t + 1 ∉ K := CI_ft hCI (by omega)
  have hn2 : 2000 + 4 * t + 2 ∉ K := CI_ft hCI (by omega)
  have hn3 : 2000 + 4 * t + 3 ∉ K := CI_ft hCI (by omega)
  have hsK : ∀ k ∈ K, shP S (2000 + 4 * t) ln k = shN S k := fun k hk => shP_K (fun (e : k = 2000 + 4 * t) => hn0 (by rw [← e]; exact hk)) (fun (e : k = 2000 + 4 * t + 1) => hn1 (by rw [← e]; exact hk))
  have hH1 : HC S K (shP S (2000 + 4 * t) ln) := HC_shK hsK hCI.1
  have hL1 : Cl K (shP S (2000 + 4 * t) ln) := fun j hj r hr => hCI.2.1 j hj r (by rw [← hsK j hj]; exact hr)
  replace hI := IS_sh (sh2 := shP S (2000 + 4 * t) ln) (fun k hk => by rw [hsK k hk]) hI
  have hP0 : shP S (2000 + 4 * t) ln (2000 + 4 * t) = (0, 9, [1, 1, 1]) := if_pos rfl
  have hP1 : shP S (2000 + 4 * t) ln (2000 + 4 * t + 1) = (1, ln, []) := shP_1 htx
  have hP2 : shP S (2000 + 4 * t) ln (2000 + 4 * t + 2) = (1, 3, []) := shP_2 htx
  have hP3 : shP S (2000 + 4 * t) ln (2000 + 4 * t + 3) = (1, 32, []) := shP_3 htx
  refine s_afZ (fun q h => h) hI (s_runVzL (rest := []) (As := []) (np := 0) E hK hI (s_B hclA hBs hI) hclA.2 (mE hH1.1 eC_100) rfl (c_X11_text l D K (shP S (2000 + 4 * t) ln) ad2 cy _ B H.size (hclA.mono (AZ_in hI (fun q h => h))) hL1 S hH1 adK adV (fun U hU => SB_nar (hSBA U hU) (AZ_in hI (fun q h => h))) G L O (2000 + 4 * t) ln htx hP0 hP1 hP2 hP3 hn0 hn1 hn2 hn3 hCI.2.2.1 f1) kyX11_text u3_167 u3_168 u3_169 (by decide) rfl hl.1 rfl (Nat.le_of_ble_eq_true rfl) ⟨by omega, by omega⟩ dL_law_384) (fun ad3 sh3 H locs had hHy hI => ?_)
  subst hHy
  replace hI := IS_sh (sh2 := shN S1) (fun k hk => by
    rcases hS1 with ⟨h1, h2⟩ | ⟨h1, h2⟩
    · subst h1 h2; rw [if_pos rfl, shP_T htx]
    · subst h1 h2; rw [if_neg (by decide)] at hk ⊢; rw [hsK k hk]) hI
  replace had := had 100 (mE hH1.1 eC_100).1
  replace hI := IS_swap hI
  refine lv_aload_n hx hb dL_law_387 rfl (lv_at hl 2 rfl) ?_
  refine s_afI hI (s_runVL (rest := [.int v]) (As := []) (np := 0) E hK hI (s_B hclA hBs hI) hclA.2 (mE hER eM_0) rfl (c_X12_text l D KM shR ad1 cy _ B (hclA.mono (s_inA hI)) hER G' L' O'  f2) kyX12_text u5_163 u5_164 u5_165 (by decide) rfl hl.1 rfl (Nat.le_of_ble_eq_true rfl) ⟨by omega, by omega⟩ dL_law_388) (fun H locs hI => ?_)
  replace hI := IS_swap hI
  refine lv_icmp_eq (tgt := 1056) hx hb dL_law_391 (by decide) (fun _ => ?_) (fun c => absurd rfl c)
  refine W.widen (by omega) (by omega) (kk ad3 _ S1 z (t + nz) G1 L O1 G1' _ _ had hI hC1 hR1)
theorem law_6 (E : Cx p s m #[Value.ref b] meth c RL cL_law 4 (some .boolean)) (hK : KS D cy s) (hclA : Bcl (AL s) B) (hBs : B s) (hSBA : ∀ U, B U → SB adK adV (AL s) U) (hCa : ∀ U, B U → CaS U) (hER : ∀ q ∈ shM, q.1 ∈ KM ∧ shR q.1 = q.2) (hX : va_X b n xs s s.heap) (hbl : b < s.heap.size) (hin : ∀ k : Int32, 0 ≤ k → k ≤ 5 → vp_in (i + k) n) (hz : ∀ z t G L O S G', RR z t G L O S G' → z ≤ 10) (hA : Ag_force RR) {ls : Array Slot} {H : Heap} {locs : List Loc} {cells slots z t : Nat} {K : List Nat} {ad2 : Nat → Nat} {S : Nat → Nat} {G G' : Mem} {L : MemL} {O : MemO} (hl : lv_has ls 4 [(0, .ref b), (1, .ref (ad2 100)), (2, .ref (ad1 0)), (3, .int i)]) (hI : IS D K (shN S) ad2 cy (wS KM shR ad1 cy G' L' O' ++ []) (AL s) s.heap H locs G L O) (hCI : CI K S O z t) (hR : RR z t G L O S G') (hcc : cells + 10 ≤ 600000) (hss : slots + 198 ≤ 7302250)
    (kk : ∀ (ad3 : Nat → Nat) (K1 : List Nat) (S1 : Nat → Nat) (z1 t1 : Nat) (G1 : Mem) (L1 : MemL) (O1 : MemO) (G1' : Mem) (H : Heap) (locs : List Loc), ad3 100 = ad2 100 → IS D K1 (shN S1) ad3 cy (wS KM shR ad1 cy G1' L' O' ++ []) (AL s) s.heap H locs G1 L1 O1 → CI K1 S1 O1 z1 t1 → RR z1 t1 G1 L1 O1 S1 G1' → W p l e room_1 s m #[Value.ref b] below meth c H locs (cells + 10) (slots + 198) Q (F0 m 1056 ls [])) : W p l e room_1 s m #[Value.ref b] below meth c H locs cells slots Q (F0 m 396 ls []) := by
  obtain ⟨hx, hb, -, hml, hown, hu, -⟩ := id E
  have hbA : ¬ AL s b := fun q => Nat.lt_irrefl _ (Nat.lt_of_lt_of_le hbl q)
  refine lv_aload_n hx hb dL_law_396 rfl (lv_at hl 1 rfl) ?_
  refine lv_aload_n hx hb dL_law_397 rfl (lv_at hl 0 rfl) ?_
  refine lv_iload_n hx hb dL_law_398 rfl (lv_at hl 3 rfl) ?_
  refine lv_iconst (v := 1) hx hb dL_law_399 (by decide) ?_
  refine lv_iadd hx hb dL_law_400 ?_
  refine va_sld hx hb hX hbl hbA hI.2.2 (hin 1 (by decide) (by decide)) dL_law_401 ?_
  have hAx := hA z t G L O S G' (xs (i + 1).toNatClampNeg) hR
  obtain ⟨G1, G1', v, f1, f2, hR1⟩ := hAx
  refine s_afI hI (s_runVL (rest := []) (As := [.int (xs (i + 1).toNatClampNeg)]) (np := 1) E hK hI (s_B hclA hBs hI) hclA.2 (mE hCI.1.1 eC_100) rfl (c_X11_force l D K (shN S) ad2 cy _ B (hclA.mono (s_inA hI)) S hCI.1 G L O (xs (i + 1).toNatClampNeg) f1) kyX11_force u3_171 u3_172 u3_173 (by decide) rfl hl.1 rfl (Nat.le_of_ble_eq_true rfl) ⟨by omega, by omega⟩ dL_law_402) (fun H locs hI => ?_)
  replace hI := IS_swap hI
  refine lv_aload_n hx hb dL_law_405 rfl (lv_at hl 2 rfl) ?_
  refine lv_aload_n hx hb dL_law_406 rfl (lv_at hl 0 rfl) ?_
  refine lv_iload_n hx hb dL_law_407 rfl (lv_at hl 3 rfl) ?_
  refine lv_iconst (v := 1) hx hb dL_law_408 (by decide) ?_
  refine lv_iadd hx hb dL_law_409 ?_
  refine va_sld hx hb hX hbl hbA hI.2.2 (hin 1 (by decide) (by decide)) dL_law_410 ?_
  refine s_afI hI (s_runVL (rest := [.int v]) (As := [.int (xs (i + 1).toNatClampNeg)]) (np := 1) E hK hI (s_B hclA hBs hI) hclA.2 (mE hER eM_0) rfl (c_X12_force l D KM shR ad1 cy _ B (hclA.mono (s_inA hI)) hER G' L' O' (xs (i + 1).toNatClampNeg) f2) kyX12_force u5_229 u5_230 u5_231 (by decide) rfl hl.1 rfl (Nat.le_of_ble_eq_true rfl) ⟨by omega, by omega⟩ dL_law_411) (fun H locs hI => ?_)
  replace hI := IS_swap hI
  refine lv_icmp_eq (tgt := 1056) hx hb dL_law_414 (by decide) (fun _ => ?_) (fun c => absurd rfl c)
  refine W.widen (by omega) (by omega) (kk ad2 K S z t G1 L O G1' _ _ rfl hI hCI hR1)
theorem law_7 (E : Cx p s m #[Value.ref b] meth c RL cL_law 4 (some .boolean)) (hK : KS D cy s) (hclA : Bcl (AL s) B) (hBs : B s) (hSBA : ∀ U, B U → SB adK adV (AL s) U) (hCa : ∀ U, B U → CaS U) (hER : ∀ q ∈ shM, q.1 ∈ KM ∧ shR q.1 = q.2) (hX : va_X b n xs s s.heap) (hbl : b < s.heap.size) (hin : ∀ k : Int32, 0 ≤ k → k ≤ 5 → vp_in (i + k) n) (hz : ∀ z t G L O S G', RR z t G L O S G' → z ≤ 10) (hA : Ag_sing RR) {ls : Array Slot} {H : Heap} {locs : List Loc} {cells slots z t : Nat} {K : List Nat} {ad2 : Nat → Nat} {S : Nat → Nat} {G G' : Mem} {L : MemL} {O : MemO} (hl : lv_has ls 4 [(0, .ref b), (1, .ref (ad2 100)), (2, .ref (ad1 0)), (3, .int i)]) (hI : IS D K (shN S) ad2 cy (wS KM shR ad1 cy G' L' O' ++ []) (AL s) s.heap H locs G L O) (hCI : CI K S O z t) (hR : RR z t G L O S G') (hcc : cells + 10 ≤ 600000) (hss : slots + 198 ≤ 7302250)
    (kk : ∀ (ad3 : Nat → Nat) (K1 : List Nat) (S1 : Nat → Nat) (z1 t1 : Nat) (G1 : Mem) (L1 : MemL) (O1 : MemO) (G1' : Mem) (H : Heap) (locs : List Loc), ad3 100 = ad2 100 → IS D K1 (shN S1) ad3 cy (wS KM shR ad1 cy G1' L' O' ++ []) (AL s) s.heap H locs G1 L1 O1 → CI K1 S1 O1 z1 t1 → RR z1 t1 G1 L1 O1 S1 G1' → W p l e room_1 s m #[Value.ref b] below meth c H locs (cells + 10) (slots + 198) Q (F0 m 1056 ls [])) : W p l e room_1 s m #[Value.ref b] below meth c H locs cells slots Q (F0 m 419 ls []) := by
  obtain ⟨hx, hb, -, hml, hown, hu, -⟩ := id E
  have hbA : ¬ AL s b := fun q => Nat.lt_irrefl _ (Nat.lt_of_lt_of_le hbl q)
  refine lv_aload_n hx hb dL_law_419 rfl (lv_at hl 1 rfl) ?_
  refine lv_aload_n hx hb dL_law_420 rfl (lv_at hl 0 rfl) ?_
  refine lv_iload_n hx hb dL_law_421 rfl (lv_at hl 3 rfl) ?_
  refine lv_iconst (v := 1) hx hb dL_law_422 (by decide) ?_
  refine lv_iadd hx hb dL_law_423 ?_
  refine va_sld hx hb hX hbl hbA hI.2.2 (hin 1 (by decide) (by decide)) dL_law_424 ?_
  refine lv_aload_n hx hb dL_law_425 rfl (lv_at hl 0 rfl) ?_
  refine lv_iload_n hx hb dL_law_426 rfl (lv_at hl 3 rfl) ?_
  refine lv_iconst (v := 2) hx hb dL_law_427 (by decide) ?_
  refine lv_iadd hx hb dL_law_428 ?_
  refine va_sld hx hb hX hbl hbA hI.2.2 (hin 2 (by decide) (by decide)) dL_law_429 ?_
  have hAx := hA z t G L O S G' (xs (i + 1).toNatClampNeg) (xs (i + 2).toNatClampNeg) hR
  obtain ⟨G1, L1, O1, G1', v, f1, f2, hOW, hR1⟩ := hAx
  refine s_afI hI (s_runVL (rest := []) (As := [.int (xs (i + 1).toNatClampNeg), .int (xs (i + 2).toNatClampNeg)]) (np := 2) E hK hI (s_B hclA hBs hI) hclA.2 (mE hCI.1.1 eC_100) rfl (c_X11_sing l D K (shN S) ad2 cy _ B (hclA.mono (s_inA hI)) S hCI.1 G L O (xs (i + 1).toNatClampNeg) (xs (i + 2).toNatClampNeg) f1) kyX11_sing u3_175 u3_176 u3_177 (by decide) rfl hl.1 rfl (Nat.le_of_ble_eq_true rfl) ⟨by omega, by omega⟩ dL_law_430) (fun H locs hI => ?_)
  replace hI := IS_swap hI
  refine lv_aload_n hx hb dL_law_433 rfl (lv_at hl 2 rfl) ?_
  refine lv_aload_n hx hb dL_law_434 rfl (lv_at hl 0 rfl) ?_
  refine lv_iload_n hx hb dL_law_435 rfl (lv_at hl 3 rfl) ?_
  refine lv_iconst (v := 1) hx hb dL_law_436 (by decide) ?_
  refine lv_iadd hx hb dL_law_437 ?_
  refine va_sld hx hb hX hbl hbA hI.2.2 (hin 1 (by decide) (by decide)) dL_law_438 ?_
  refine lv_aload_n hx hb dL_law_439 rfl (lv_at hl 0 rfl) ?_
  refine lv_iload_n hx hb dL_law_440 rfl (lv_at hl 3 rfl) ?_
  refine lv_iconst (v := 2) hx hb dL_law_441 (by decide) ?_
  refine lv_iadd hx hb dL_law_442 ?_
  refine va_sld hx hb hX hbl hbA hI.2.2 (hin 2 (by decide) (by decide)) dL_law_443 ?_
  refine s_afI hI (s_runVL (rest := [.int v]) (As := [.int (xs (i + 1).toNatClampNeg), .int (xs (i + 2).toNatClampNeg)]) (np := 2) E hK hI (s_B hclA hBs hI) hclA.2 (mE hER eM_0) rfl (c_X12_sing l D KM shR ad1 cy _ B (hclA.mono (s_inA hI)) hER G' L' O' (xs (i + 1).toNatClampNeg) (xs (i + 2).toNatClampNeg) f2) kyX12_sing u5_233 u5_234 u5_235 (by decide) rfl hl.1 rfl (Nat.le_of_ble_eq_true rfl) ⟨by omega, by omega⟩ dL_law_444) (fun H locs hI => ?_)
  replace hI := IS_swap hI
  refine lv_icmp_eq (tgt := 1056) hx hb dL_law_447 (by decide) (fun _ => ?_) (fun c => absurd rfl c)
  refine W.widen (by omega) (by omega) (kk ad2 K S z t G1 L1 O1 G1' _ _ rfl hI (CI_OW hCI hOW) hR1)
theorem law_8 (E : Cx p s m #[Value.ref b] meth c RL cL_law 4 (some .boolean)) (hK : KS D cy s) (hclA : Bcl (AL s) B) (hBs : B s) (hSBA : ∀ U, B U → SB adK adV (AL s) U) (hCa : ∀ U, B U → CaS U) (hER : ∀ q ∈ shM, q.1 ∈ KM ∧ shR q.1 = q.2) (hX : va_X b n xs s s.heap) (hbl : b < s.heap.size) (hin : ∀ k : Int32, 0 ≤ k → k ≤ 5 → vp_in (i + k) n) (hz : ∀ z t G L O S G', RR z t G L O S G' → z ≤ 10) (hA : Ag_of RR) {ls : Array Slot} {H : Heap} {locs : List Loc} {cells slots z t : Nat} {K : List Nat} {ad2 : Nat → Nat} {S : Nat → Nat} {G G' : Mem} {L : MemL} {O : MemO} (hl : lv_has ls 4 [(0, .ref b), (1, .ref (ad2 100)), (2, .ref (ad1 0)), (3, .int i)]) (hI : IS D K (shN S) ad2 cy (wS KM shR ad1 cy G' L' O' ++ []) (AL s) s.heap H locs G L O) (hCI : CI K S O z t) (hR : RR z t G L O S G') (hcc : cells + 10 ≤ 600000) (hss : slots + 198 ≤ 7302250)
    (kk : ∀ (ad3 : Nat → Nat) (K1 : List Nat) (S1 : Nat → Nat) (z1 t1 : Nat) (G1 : Mem) (L1 : MemL) (O1 : MemO) (G1' : Mem) (H : Heap) (locs : List Loc), ad3 100 = ad2 100 → IS D K1 (shN S1) ad3 cy (wS KM shR ad1 cy G1' L' O' ++ []) (AL s) s.heap H locs G1 L1 O1 → CI K1 S1 O1 z1 t1 → RR z1 t1 G1 L1 O1 S1 G1' → W p l e room_1 s m #[Value.ref b] below meth c H locs (cells + 10) (slots + 198) Q (F0 m 1056 ls [])) : W p l e room_1 s m #[Value.ref b] below meth c H locs cells slots Q (F0 m 452 ls []) := by
  obtain ⟨hx, hb, -, hml, hown, hu, -⟩ := id E
  have hbA : ¬ AL s b := fun q => Nat.lt_irrefl _ (Nat.lt_of_lt_of_le hbl q)
  refine lv_aload_n hx hb dL_law_452 rfl (lv_at hl 1 rfl) ?_
  refine lv_aload_n hx hb dL_law_453 rfl (lv_at hl 0 rfl) ?_
  refine lv_iload_n hx hb dL_law_454 rfl (lv_at hl 3 rfl) ?_
  refine lv_iconst (v := 1) hx hb dL_law_455 (by decide) ?_
  refine lv_iadd hx hb dL_law_456 ?_
  refine va_sld hx hb hX hbl hbA hI.2.2 (hin 1 (by decide) (by decide)) dL_law_457 ?_
  refine lv_aload_n hx hb dL_law_458 rfl (lv_at hl 0 rfl) ?_
  refine lv_iload_n hx hb dL_law_459 rfl (lv_at hl 3 rfl) ?_
  refine lv_iconst (v := 2) hx hb dL_law_460 (by decide) ?_
  refine lv_iadd hx hb dL_law_461 ?_
  refine va_sld hx hb hX hbl hbA hI.2.2 (hin 2 (by decide) (by decide)) dL_law_462 ?_
  refine lv_aload_n hx hb dL_law_463 rfl (lv_at hl 0 rfl) ?_
  refine lv_iload_n hx hb dL_law_464 rfl (lv_at hl 3 rfl) ?_
  refine lv_iconst (v := 3) hx hb dL_law_465 (by decide) ?_
  refine lv_iadd hx hb dL_law_466 ?_
  refine va_sld hx hb hX hbl hbA hI.2.2 (hin 3 (by decide) (by decide)) dL_law_467 ?_
  have hAx := hA z t G L O S G' (xs (i + 1).toNatClampNeg) (xs (i + 2).toNatClampNeg) (xs (i + 3).toNatClampNeg) hR
  obtain ⟨G1, L1, O1, G1', v, f1, f2, hOW, hR1⟩ := hAx
  refine s_afI hI (s_runVL (rest := []) (As := [.int (xs (i + 1).toNatClampNeg), .int (xs (i + 2).toNatClampNeg), .int (xs (i + 3).toNatClampNeg)]) (np := 3) E hK hI (s_B hclA hBs hI) hclA.2 (mE hCI.1.1 eC_100) rfl (c_X11_of l D K (shN S) ad2 cy _ B (hclA.mono (s_inA hI)) S hCI.1 G L O (xs (i + 1).toNatClampNeg) (xs (i + 2).toNatClampNeg) (xs (i + 3).toNatClampNeg) f1) kyX11_of u4_19 u4_20 u4_21 (by decide) rfl hl.1 rfl (Nat.le_of_ble_eq_true rfl) ⟨by omega, by omega⟩ dL_law_468) (fun H locs hI => ?_)
  replace hI := IS_swap hI
  refine lv_aload_n hx hb dL_law_471 rfl (lv_at hl 2 rfl) ?_
  refine lv_aload_n hx hb dL_law_472 rfl (lv_at hl 0 rfl) ?_
  refine lv_iload_n hx hb dL_law_473 rfl (lv_at hl 3 rfl) ?_
  refine lv_iconst (v := 1) hx hb dL_law_474 (by decide) ?_
  refine lv_iadd hx hb dL_law_475 ?_
  refine va_sld hx hb hX hbl hbA hI.2.2 (hin 1 (by decide) (by decide)) dL_law_476 ?_
  refine lv_aload_n hx hb dL_law_477 rfl (lv_at hl 0 rfl) ?_
  refine lv_iload_n hx hb dL_law_478 rfl (lv_at hl 3 rfl) ?_
  refine lv_iconst (v := 2) hx hb dL_law_479 (by decide) ?_
  refine lv_iadd hx hb dL_law_480 ?_
  refine va_sld hx hb hX hbl hbA hI.2.2 (hin 2 (by decide) (by decide)) dL_law_481 ?_
  refine lv_aload_n hx hb dL_law_482 rfl (lv_at hl 0 rfl) ?_
  refine lv_iload_n hx hb dL_law_483 rfl (lv_at hl 3 rfl) ?_
  refine lv_iconst (v := 3) hx hb dL_law_484 (by decide) ?_
  refine lv_iadd hx hb dL_law_485 ?_
  refine va_sld hx hb hX hbl hbA hI.2.2 (hin 3 (by decide) (by decide)) dL_law_486 ?_
  refine s_afI hI (s_runVL (rest := [.int v]) (As := [.int (xs (i + 1).toNatClampNeg), .int (xs (i + 2).toNatClampNeg), .int (xs (i + 3).toNatClampNeg)]) (np := 3) E hK hI (s_B hclA hBs hI) hclA.2 (mE hER eM_0) rfl (c_X12_of l D KM shR ad1 cy _ B (hclA.mono (s_inA hI)) hER G' L' O' (xs (i + 1).toNatClampNeg) (xs (i + 2).toNatClampNeg) (xs (i + 3).toNatClampNeg) f2) kyX12_of u6_40 u6_41 u6_42 (by decide) rfl hl.1 rfl (Nat.le_of_ble_eq_true rfl) ⟨by omega, by omega⟩ dL_law_487) (fun H locs hI => ?_)
  replace hI := IS_swap hI
  refine lv_icmp_eq (tgt := 1056) hx hb dL_law_490 (by decide) (fun _ => ?_) (fun c => absurd rfl c)
  refine W.widen (by omega) (by omega) (kk ad2 K S z t G1 L1 O1 G1' _ _ rfl hI (CI_OW hCI hOW) hR1)
end LW
