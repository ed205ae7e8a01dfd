def KI : List Nat := [100, 101, 102, 103, 104, 105, 106, 107, 108, 109, 110, 111, 112, 113, 114, 115, 116, 117, 118, 128, 129, 130, 131, 132, 133, 134, 135, 136, 137, 138, 120, 124, 121, 125, 122, 126, 123, 127, 2002, 2000, 2001, 2003]
def KR : List Nat := [0, 1, 2, 3, 4, 5, 6, 7, 8, 9, 10, 11, 12, 13, 14, 15, 16, 17, 18, 19, 20, 21, 22, 23, 24, 25, 26, 27, 28, 29, 30, 31, 32, 33, 34]
def shK0 (ln : Nat) : Nat → Ent := fun b => if b = 2000 then (0, 9, [1, 1, 1]) else if b = 2001 then (1, ln, []) else if b = 2002 then (1, 3, []) else if b = 2003 then (1, 32, []) else (match shKl.find? (fun q => q.1 == b) with | some q => q.2 | none => (0, 0, []))
def shRF : Nat → Ent := fun b => match shM.find? (fun q => q.1 == b) with | some q => q.2 | none => (0, 0, [])
def shRK : Nat → Ent := fun b => if b = 0 then (0, 12, flMk) else shRF b
def OFinR (O : MemO) : Prop := O 0 3 = some 1 ∧ O 0 4 = some 2 ∧ O 0 5 = some 3 ∧ O 0 6 = some 4 ∧ O 0 8 = some 5 ∧ O 0 9 = some 6 ∧ O 0 10 = some 7 ∧ O 0 11 = some 8 ∧ O 0 12 = some 9 ∧ O 0 13 = some 10 ∧ O 0 17 = some 11 ∧ O 0 18 = some 12 ∧ O 0 19 = some 13 ∧ O 0 27 = some 14 ∧ O 0 28 = some 15 ∧ O 0 29 = some 16 ∧ O 0 30 = some 17 ∧ O 0 31 = some 18 ∧ O 0 32 = some 19 ∧ O 0 33 = some 20 ∧ O 0 34 = some 21 ∧ O 0 35 = some 22 ∧ O 0 41 = some 23 ∧ O 0 42 = some 24 ∧ O 0 43 = some 25 ∧ O 0 49 = some 26 ∧ O 0 50 = some 27 ∧ O 0 51 = some 28 ∧ O 0 52 = some 29 ∧ O 0 53 = some 30 ∧ O 0 54 = some 31 ∧ O 0 55 = some 32 ∧ O 0 56 = some 33 ∧ O 0 57 = some 34
theorem shK0_h {ln : Nat} : ∀ q ∈ shKl, shK0 ln q.1 = q.2 := by
  have key : ∀ q ∈ shKl, (q.1 ≠ 2000 ∧ q.1 ≠ 2001 ∧ q.1 ≠ 2002 ∧ q.1 ≠ 2003) ∧ shKl.find? (fun z => z.1 == q.1) = some q := by decide
  intro q hq
  obtain ⟨⟨h1, h2, h3, h4⟩, h5⟩ := key q hq
  unfold shK0
  rw [if_neg h1, if_neg h2, if_neg h3, if_neg h4, h5]
theorem shRF_h : ∀ q ∈ shM, q.1 ∈ KR ∧ shRF q.1 = q.2 := by decide
theorem KI_sh {ln : Nat} : ∀ k ∈ KI, shT (shFin (shK0 ln)) 2000 k = shN (stx S00 2000 ln) k := by
  intro k hk
  simp only [KI, List.mem_cons, List.not_mem_nil, or_false] at hk
  rcases hk with rfl | rfl | rfl | rfl | rfl | rfl | rfl | rfl | rfl | rfl | rfl | rfl | rfl | rfl | rfl | rfl | rfl | rfl | rfl | rfl | rfl | rfl | rfl | rfl | rfl | rfl | rfl | rfl | rfl | rfl | rfl | rfl | rfl | rfl | rfl | rfl | rfl | rfl | rfl | rfl | rfl | rfl <;> rfl
theorem KI_HC {ln : Nat} : HC (stx S00 2000 ln) KI (shN (stx S00 2000 ln)) := by
  refine ⟨fun q hq => ⟨(show ∀ q ∈ shC, q.1 ∈ KI by decide) q hq, shN_C q hq⟩, fun e he => ?_, fun e he => ?_⟩
  · have h := of_decide_eq_true he
    have h2 : stx S00 2000 ln e = 77 := by
      unfold stx S00
      rw [if_neg (by omega), if_neg (by omega)]
    rw [h2] at h
    omega
  · have h := of_decide_eq_true he
    have h2 : e = 2000 := by
      by_cases h3 : e = 2000
      · exact h3
      · have h4 : stx S00 2000 ln e = 77 := by
          unfold stx S00
          rw [if_neg h3, if_neg (by omega)]
        rw [h4] at h
        omega
    subst h2
    exact ⟨⟨by decide, rfl⟩, ⟨by decide, rfl⟩, ⟨by decide, rfl⟩, ⟨by decide, rfl⟩⟩
theorem KI_Cl {ln : Nat} : Cl KI (shN (stx S00 2000 ln)) := by
  intro j hj r hr
  rcases (show ∀ j ∈ KI, (∃ q ∈ shC, q.1 = j) ∨ j = 2000 ∨ j = 2001 ∨ j = 2002 ∨ j = 2003 by decide) j hj with ⟨q, hq, rfl⟩ | rfl | rfl | rfl | rfl
  · rw [shN_C q hq] at hr
    exact (show ∀ q ∈ shC, ∀ d ∈ q.2.2.2, d = d - 2 + 2 → d - 2 ∈ KI by decide) q hq (r + 2) hr rfl
  · have hr : r + 2 ∈ flTx 2000 := hr
    have := (show ∀ d ∈ flTx 2000, d - 2 ∈ KI by decide) _ hr
    exact this
  · cases hr
  · cases hr
  · cases hr
theorem KI_CI {ln : Nat} {O : MemO} (h : ORf KI O) : CI KI (stx S00 2000 ln) O 0 1 := ⟨KI_HC, KI_Cl, h, by decide, by decide⟩
theorem conv_R {ad : Nat → Nat} {cy : Nat → ClassId} {G : Mem} {L : MemL} {O : MemO} (hO : OFinR O) (k : Nat) : entE k (shRF k) ad cy G L O = entE k (shRK k) ad cy G L O := by
  unfold shRK
  by_cases hk : k = 0
  · subst hk
    obtain ⟨h0, h1, h2, h3, h4, h5, h6, h7, h8, h9, h10, h11, h12, h13, h14, h15, h16, h17, h18, h19, h20, h21, h22, h23, h24, h25, h26, h27, h28, h29, h30, h31, h32, h33⟩ := hO
    rw [if_pos rfl, show shRF 0 = (0, 12, flM) from rfl, entE_o (fl := flM) rfl, entE_o (fl := flMk) rfl]
    refine inr_eq ?_
    simp [entF, flM, flMk, fval, va_rf, List.mapIdx_cons, h0, h1, h2, h3, h4, h5, h6, h7, h8, h9, h10, h11, h12, h13, h14, h15, h16, h17, h18, h19, h20, h21, h22, h23, h24, h25, h26, h27, h28, h29, h30, h31, h32, h33]
  · rw [if_neg hk]
def Ag_init (RR : Nat → Nat → Mem → MemL → MemO → (Nat → Nat) → Mem → Prop) : Prop := ∃ (ln : Nat) (G1 : Mem) (L1 : MemL) (O1 : MemO) (G1' : Mem) (O1' : MemO), f_X11_init 2000 ln (zr 0 (fun _ _ => 0) 100) (fun _ _ => 0) (zr none (fun _ _ => none) 100) = some (stx S00 2000 ln, G1, L1, O1) ∧ f_X12_init (zr 0 (fun _ _ => 0) 0) (zr none (fun _ _ => none) 0) = some (G1', O1') ∧ ORf KI O1 ∧ OFinR O1' ∧ RR 0 1 G1 L1 O1 (stx S00 2000 ln) G1'
section LS
variable {p : Program} {l : Launch} {e : Env} {s : State} {m : MethodId} {below : List Frame} {meth : Method} {c : Code} {Q : State → Prop} {b n : Nat} {xs : Nat → Int32} {RR : Nat → Nat → Mem → MemL → MemO → (Nat → Nat) → Mem → Prop}
theorem cl_nil {sh : Nat → Ent} : Cl [] sh := fun j hj => by cases hj
theorem or_none {K : List Nat} : ORf K (fun _ _ => none) := fun j i a h => by cases h
theorem law_start (E : Cx p s m #[Value.ref b] meth c RL cL_law 4 (some .boolean)) (hts : ∀ w ∈ lw_tbl, w.before #[Value.ref b] s = true) (hg : (Jvm.Cond.and given_1 narrow_1).before #[Value.ref b] s = true) (hX : va_X b n xs s s.heap) (hbl : b < s.heap.size) (hz : ∀ z t G L O S G', RR z t G L O S G' → z ≤ 10) (hAg : Ag_all RR) (hAi : Ag_init RR) (hn : n ≤ 384) (hend : ∀ (ls : Array Slot) (H : Heap) (locs : List Loc) (cells slots : Nat), va_S (AL s) s.heap H locs → cells ≤ 600000 → slots ≤ 7302250 → W p l e room_1 s m #[Value.ref b] below meth c H locs cells slots Q (F0 m 1062 ls [])) {ls : Array Slot} (hl : lv_has ls 4 [(0, .ref b)]) : W p l e room_1 s m #[Value.ref b] below meth c s.heap [] 0 0 Q (F0 m 0 ls []) := by
  obtain ⟨hx, hb, -, hml, hown, hu, -⟩ := id E
  obtain ⟨D, cy, adK, adV, hK, hBs⟩ := st_env hts hg
  have hclA : Bcl (AL s) (BL adK adV (AL s)) := BL_cl
  have hA : ∀ q, s.heap.size ≤ q → AL s q := fun q h => h
  have hbA : ¬ AL s b := fun q => Nat.lt_irrefl _ (Nat.lt_of_lt_of_le hbl q)
  obtain ⟨ln, G1, L1, O1, G1', O1', f1, f2, hO1, hO2, hR⟩ := hAi
  have hI : IS D [] (shK0 ln) (fun _ => 0) cy [] (AL s) s.heap s.heap [] (fun _ _ => 0) (fun _ _ => 0) (fun _ _ => none) := ⟨(fun k q h => by cases h), ⟨(fun i j p q h => by cases h), (fun k q h => by cases h)⟩, va_S.rf⟩
  refine s_newObj E inU11 tyX11_ok u1_23 u1_24 u1_1 hK hI hA rfl 100 (fr_of cl_nil or_none (by decide)) (shK_at (sh := shK0 ln) shK0_h eK_100) rfl (by decide +kernel) ⟨by decide, by decide⟩ dL_law_0 (fun q H hI => ?_)
  obtain ⟨ad, ea⟩ : ∃ z, z = adU (fun _ => 0) 100 q := ⟨_, rfl⟩
  have hq : q = ad 100 := by rw [ea]; exact adU_k.symm
  rw [← ea] at hI
  rw [hq]
  clear ea hq
  refine lv_dup hx hb dL_law_3 rfl ?_
  refine s_afZ hA hI (s_runIL (rest := [.ref (ad 100)]) (As := []) (np := 0) E hK hI (s_B hclA hBs hI) hclA.2 (c_X11_init l D [100] (shK0 ln) ad cy [] (BL adK adV (AL s)) H.size (hclA.mono (AZ_in hI hA)) (fun j hj r hr => by
    rcases List.mem_singleton.mp hj with rfl
    rw [shK_at (sh := shK0 ln) shK0_h eK_100] at hr
    revert hr
    simp) adK adV (fun U hU => SB_nar hU.1 (AZ_in hI hA)) (fun U hU => hU.2.2) _ _ _ (by decide) shK0_h (by decide) 2000 ln ⟨by decide, by decide⟩ rfl rfl rfl rfl (by decide) (by decide) (by decide) (by decide) (or_none.zr 100) f1) kyX11_init u1_25 u1_26 rfl (by decide) rfl hl.1 rfl (Nat.le_of_ble_eq_true rfl) ⟨by omega, by omega⟩ dL_law_4) (fun ad3 sh3 H locs had hHy hI => ?_)
  subst hHy
  have hI : IS D KI (shT (shFin (shK0 ln)) 2000) ad3 cy [] (AL s) s.heap H locs G1 L1 O1 := hI
  replace hI := IS_sh (sh2 := shN (stx S00 2000 ln)) (fun k hk => by rw [KI_sh k hk]) hI
  have h100 := had 100 (by decide)
  rw [← h100]
  refine lv_astore_n (lv' := [(1, .ref (ad3 100)), (0, .ref b)]) hx hb dL_law_7 rfl hl (by decide) rfl (fun ls hl => ?_)
  have hI0 : IS D [] shRK (fun _ => 0) cy (wS KI (shN (stx S00 2000 ln)) ad3 cy G1 L1 O1 ++ []) (AL s) s.heap H locs (fun _ _ => 0) (fun _ _ => 0) (fun _ _ => none) := by
    have e : wS KI (shN (stx S00 2000 ln)) ad3 cy G1 L1 O1 ++ ([] : va_W) = wS KI (shN (stx S00 2000 ln)) ad3 cy G1 L1 O1 := List.append_nil _
    unfold IS at hI ⊢
    rw [e] at hI ⊢
    exact hI
  refine s_newObj E inU12 tyX12_ok u4_183 u4_184 u1_15 hK hI0 hA rfl 0 (fr_of cl_nil or_none (by decide)) (show shRK 0 = (0, 12, flMk) from rfl) rfl (by decide +kernel) ⟨by decide, by decide⟩ dL_law_8 (fun q H hI => ?_)
  obtain ⟨ad1, ea⟩ : ∃ z, z = adU (fun _ => 0) 0 q := ⟨_, rfl⟩
  have hq : q = ad1 0 := by rw [ea]; exact adU_k.symm
  rw [← ea] at hI
  rw [hq]
  clear ea hq
  refine lv_dup hx hb dL_law_11 rfl ?_
  refine s_afZ hA hI (s_runIL (rest := [.ref (ad1 0)]) (As := []) (np := 0) E hK hI (s_B hclA hBs hI) hclA.2 (c_X12_init l D [0] shRK ad1 cy _ (BL adK adV (AL s)) H.size (hclA.mono (AZ_in hI hA)) (fun j hj r hr => by
    rcases List.mem_singleton.mp hj with rfl
    revert hr
    rw [show (shRK 0).2.2 = flMk from rfl]
    exact fun hr => absurd ((show ∀ d ∈ flMk, d < 2 by decide) _ hr) (by omega)) (by decide) rfl rfl rfl rfl rfl rfl rfl rfl rfl rfl rfl rfl rfl rfl rfl rfl rfl rfl rfl rfl rfl rfl rfl rfl rfl rfl rfl rfl rfl rfl rfl rfl rfl rfl rfl (by decide) (by decide) (by decide) (by decide) (by decide) (by decide) (by decide) (by decide) (by decide) (by decide) (by decide) (by decide) (by decide) (by decide) (by decide) (by decide) (by decide) (by decide) (by decide) (by decide) (by decide) (by decide) (by decide) (by decide) (by decide) (by decide) (by decide) (by decide) (by decide) (by decide) (by decide) (by decide) (by decide) (by decide) _ _ _ (or_none.zr 0) f2) kyX12_init u4_185 u4_186 rfl (by decide) rfl hl.1 rfl (Nat.le_of_ble_eq_true rfl) ⟨by omega, by omega⟩ dL_law_12) (fun ad4 sh4 H locs had4 hHy hI => ?_)
  subst hHy
  have hI : IS D KR shRK ad4 cy (wS KI (shN (stx S00 2000 ln)) ad3 cy G1 L1 O1 ++ []) (AL s) s.heap H locs G1' (fun _ _ => 0) O1' := hI
  replace hI := IS_sh (sh2 := shRF) (fun k hk => conv_R hO2 k) hI
  replace hI := IS_swap hI
  have h0 := had4 0 (by decide)
  rw [← h0]
  refine lv_astore_n (lv' := [(2, .ref (ad4 0)), (1, .ref (ad3 100)), (0, .ref b)]) hx hb dL_law_15 rfl hl (by decide) rfl (fun ls hl => ?_)
  refine lv_iconst (v := 0) hx hb dL_law_16 (by decide) ?_
  refine lv_istore_n (lv' := [(3, .int 0), (2, .ref (ad4 0)), (1, .ref (ad3 100)), (0, .ref b)]) hx hb dL_law_17 rfl hl (by decide) rfl (fun ls hl => ?_)
  refine W.widen (k := 1000 + 10 * 0) (n := 20000 + 198 * 0) (by omega) (by omega) ?_
  exact law_loop E hK hclA hBs (fun U hU => hU.1) (fun U hU => hU.2.1) shRF_h hX hbl hz hAg hn hend n 0 (by omega) (by omega) (lv_sub hl [3, 2, 1, 0] rfl) hI (KI_CI hO1) hR
end LS
