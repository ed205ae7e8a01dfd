def Ag_all (RR : Nat → Nat → Mem → MemL → MemO → (Nat → Nat) → Mem → Prop) : Prop := Ag_set RR ∧ Ag_singer RR ∧ Ag_voice RR ∧ Ag_told RR ∧ Ag_feed RR ∧ Ag_text RR ∧ Ag_force RR ∧ Ag_sing RR ∧ Ag_of RR ∧ Ag_wrong RR ∧ Ag_bad RR ∧ Ag_breaths RR ∧ Ag_fewest RR ∧ Ag_round RR ∧ Ag_lent RR ∧ Ag_lost RR ∧ Ag_who RR ∧ Ag_image RR ∧ Ag_back RR ∧ Ag_count RR ∧ Ag_sheet RR ∧ Ag_cell RR ∧ Ag_copy RR ∧ Ag_singers RR ∧ Ag_taken RR
theorem law_cmp {n k : Nat} (hn : n ≤ 384) (hk : k ≤ 65) : (Int32.ofNat n - 6 < nI (6 * k)) ↔ n < 6 * k + 6 := by
  have h1 : (Int32.ofNat n - 6 : Int32).toInt = (n : Int) - 6 := by
    rw [Int32.toInt_sub, show (Int32.ofNat n).toInt = (n : Int) from nI_toInt (n := n) (by omega), show (6 : Int32).toInt = 6 from rfl]
    simp only [Int.bmod]
    omega
  rw [Int32.lt_iff_toInt_lt, h1, nI_toInt (by omega)]
  omega
theorem law_and (x : Int32) : ∃ j : Nat, j ≤ 31 ∧ x &&& 31 = nI j := by
  refine ⟨(x &&& 31).toBitVec.toNat, ?_, ?_⟩
  · show (x.toBitVec &&& (31 : BitVec 32)).toNat ≤ 31
    rw [BitVec.toNat_and]
    exact Nat.and_le_right
  · apply Int32.toBitVec_inj.mp
    show _ = BitVec.ofNat 32 _
    simp
theorem law_six {k : Nat} (n : Nat) (hk : 6 * k + 6 ≤ n) (hn : n ≤ 384) : ∀ j : Int32, 0 ≤ j → j ≤ 5 → vp_in (nI (6 * k) + j) n := by
  intro j h0 h5
  obtain ⟨a, ha, rfl⟩ := nI_of2 (M := 5) (n := 5) rfl (by intro h; exact absurd (Int32.lt_iff_toInt_lt.mp h) (by have := Int32.le_iff_toInt_le.mp h0; omega)) h5
  rw [nI_add]
  exact vp_in_nI (by omega) (by omega)
section LO
variable {p : Program} {l : Launch} {e : Env} {s : State} {m : MethodId} {below : List Frame} {meth : Method} {c : Code} {Q : State → Prop} {D : va_G} {KM : List Nat} {shR : Nat → Ent} {ad1 adK adV : Nat → Nat} {cy : Nat → ClassId} {b n : Nat} {xs : Nat → Int32} {B : State → Prop} {L' : MemL} {O' : MemO} {i : Int32} {RR : Nat → Nat → Mem → MemL → MemO → (Nat → Nat) → Mem → Prop}

theorem law_loop (E : Cx p s m #[Value.ref b] meth c RL cL_law 4 (some .boolean)) (hK : KS D cy s) (hclA : Bcl (AL s) B) (hBs : B s) (hSBA : ∀ U, B U → SB adK adV (AL s) U) (hCa : ∀ U, B U → CaS U) (hER : ∀ q ∈ shM, q.1 ∈ KM ∧ shR q.1 = q.2) (hX : va_X b n xs s s.heap) (hbl : b < s.heap.size) (hz : ∀ z t G L O S G', RR z t G L O S G' → z ≤ 10) (hAg : Ag_all RR) (hn : n ≤ 384) (hend : ∀ (ls : Array Slot) (H : Heap) (locs : List Loc) (cells slots : Nat), va_S (AL s) s.heap H locs → cells ≤ 600000 → slots ≤ 7302250 → W p l e room_1 s m #[Value.ref b] below meth c H locs cells slots Q (F0 m 1062 ls [])) : ∀ (d k : Nat) {ls : Array Slot} {H : Heap} {locs : List Loc} {z t : Nat} {K : List Nat} {ad2 : Nat → Nat} {S : Nat → Nat} {G G' : Mem} {L : MemL} {O : MemO}, n < 6 * k + 6 * d + 6 → 6 * k ≤ n + 5 → lv_has ls 4 [(0, .ref b), (1, .ref (ad2 100)), (2, .ref (ad1 0)), (3, .int (nI (6 * k)))] → IS D K (shN S) ad2 cy (wS KM shR ad1 cy G' L' O' ++ []) (AL s) s.heap H locs G L O → CI K S O z t → RR z t G L O S G' → W p l e room_1 s m #[Value.ref b] below meth c H locs (1000 + 10 * k) (20000 + 198 * k) Q (F0 m 18 ls []) := by
  obtain ⟨hx, hb, -, hml, hown, hu, -⟩ := id E
  have hbA : ¬ AL s b := fun q => Nat.lt_irrefl _ (Nat.lt_of_lt_of_le hbl q)
  obtain ⟨a0, a1, a2, a3, a4, a5, a6, a7, a8, a9, a10, a11, a12, a13, a14, a15, a16, a17, a18, a19, a20, a21, a22, a23, a24⟩ := hAg
  intro d
  induction d with
  | zero =>
    intro k ls H locs z t K ad2 S G G' L O hd hk hl hI hCI hR
    refine lv_iload_n hx hb dL_law_18 rfl (lv_at hl 3 rfl) ?_
    refine lv_aload_n hx hb dL_law_19 rfl (lv_at hl 0 rfl) ?_
    refine va_slen hx hb hX hbl hbA hI.2.2 dL_law_20 ?_
    refine lv_bipush (v := 6) hx hb dL_law_21 (by decide) ?_
    refine lv_isub hx hb dL_law_23 ?_
    refine lv_icmp_gt (tgt := 1062) hx hb dL_law_24 (by decide) (fun _ => hend ls H locs _ _ hI.2.2 (by omega) (by omega)) (fun hcm => absurd ((law_cmp hn (by omega)).mpr (by omega)) hcm)
  | succ d ih =>
    intro k ls H locs z t K ad2 S G G' L O hd hk hl hI hCI hR
    refine lv_iload_n hx hb dL_law_18 rfl (lv_at hl 3 rfl) ?_
    refine lv_aload_n hx hb dL_law_19 rfl (lv_at hl 0 rfl) ?_
    refine va_slen hx hb hX hbl hbA hI.2.2 dL_law_20 ?_
    refine lv_bipush (v := 6) hx hb dL_law_21 (by decide) ?_
    refine lv_isub hx hb dL_law_23 ?_
    refine lv_icmp_gt (tgt := 1062) hx hb dL_law_24 (by decide) (fun _ => hend ls H locs _ _ hI.2.2 (by omega) (by omega)) (fun hcm => ?_)
    have hk6 : 6 * k + 6 ≤ n := Nat.not_lt.mp (fun h => hcm ((law_cmp hn (by omega)).mpr h))
    have hin := law_six n hk6 hn
    refine lv_aload_n hx hb dL_law_27 rfl (lv_at hl 0 rfl) ?_
    refine lv_iload_n hx hb dL_law_28 rfl (lv_at hl 3 rfl) ?_
    refine va_sld hx hb hX hbl hbA hI.2.2 (vp_in_nI (by omega) (by omega)) dL_law_29 ?_
    refine lv_bipush (v := 31) hx hb dL_law_30 (by decide) ?_
    refine lv_iand hx hb dL_law_32 ?_
    obtain ⟨j, hj, hw⟩ := law_and (xs (nI (6 * k)).toNatClampNeg)
    rw [hw]
    have kk : ∀ (ad3 : Nat → Nat) (K1 : List Nat) (S1 : Nat → Nat) (z1 t1 : Nat) (G1 : Mem) (L1 : MemL) (O1 : MemO) (G1' : Mem) (H : Heap) (locs : List Loc), ad3 100 = ad2 100 → IS D K1 (shN S1) ad3 cy (wS KM shR ad1 cy G1' L' O' ++ []) (AL s) s.heap H locs G1 L1 O1 → CI K1 S1 O1 z1 t1 → RR z1 t1 G1 L1 O1 S1 G1' → W p l e room_1 s m #[Value.ref b] below meth c H locs (1000 + 10 * k + 10) (20000 + 198 * k + 198) Q (F0 m 1056 ls []) := by
      intro ad3 K1 S1 z1 t1 G1 L1 O1 G1' H locs h1 hI hCI hR
      refine lv_iinc (v := nI (6 * (k + 1))) (lv' := [(3, .int (nI (6 * (k + 1)))), (0, .ref b), (1, .ref (ad2 100)), (2, .ref (ad1 0))]) hx hb dL_law_1056 hl (k := 3) rfl (nI_add (6 * k) 6) (by decide) rfl (fun ls hl => ?_)
      refine lv_goto (tgt := 18) hx hb dL_law_1059 (by decide) ?_
      refine W.widen (k := 1000 + 10 * (k + 1)) (n := 20000 + 198 * (k + 1)) (by omega) (by omega) ?_
      refine ih (k + 1) (by omega) (by omega) (lv_sub hl [1, 2, 3, 0] ?_) hI hCI hR
      rw [h1]
      rfl
    have hc : j = 0 ∨ j = 1 ∨ j = 2 ∨ j = 3 ∨ j = 4 ∨ j = 5 ∨ j = 6 ∨ j = 7 ∨ j = 8 ∨ j = 9 ∨ j = 10 ∨ j = 11 ∨ j = 12 ∨ j = 13 ∨ j = 14 ∨ j = 15 ∨ j = 16 ∨ j = 17 ∨ j = 18 ∨ j = 19 ∨ j = 20 ∨ j = 21 ∨ j = 22 ∨ j = 23 ∨ j = 24 ∨ 25 ≤ j := by omega
    rcases hc with rfl | rfl | rfl | rfl | rfl | rfl | rfl | rfl | rfl | rfl | rfl | rfl | rfl | rfl | rfl | rfl | rfl | rfl | rfl | rfl | rfl | rfl | rfl | rfl | rfl | hj25
    · exact s_tbl (tgt := 148) 0 E dL_law_33 rfl (by decide) (by decide) rfl (by decide) (law_0 E hK hclA hBs hSBA hCa hER hX hbl hin hz a0 hl hI hCI hR (by omega) (by omega) kk)
    · exact s_tbl (tgt := 191) 1 E dL_law_33 rfl (by decide) (by decide) rfl (by decide) (law_1 E hK hclA hBs hSBA hCa hER hX hbl hin hz a1 hl hI hCI hR (by omega) (by omega) kk)
    · exact s_tbl (tgt := 234) 2 E dL_law_33 rfl (by decide) (by decide) rfl (by decide) (law_2 E hK hclA hBs hSBA hCa hER hX hbl hin hz a2 hl hI hCI hR (by omega) (by omega) kk)
    · exact s_tbl (tgt := 267) 3 E dL_law_33 rfl (by decide) (by decide) rfl (by decide) (law_3 E hK hclA hBs hSBA hCa hER hX hbl hin hz a3 hl hI hCI hR (by omega) (by omega) kk)
    · exact s_tbl (tgt := 320) 4 E dL_law_33 rfl (by decide) (by decide) rfl (by decide) (law_4 E hK hclA hBs hSBA hCa hER hX hbl hin hz a4 hl hI hCI hR (by omega) (by omega) kk)
    · exact s_tbl (tgt := 383) 5 E dL_law_33 rfl (by decide) (by decide) rfl (by decide) (law_5 E hK hclA hBs hSBA hCa hER hX hbl hin hz a5 hl hI hCI hR (by omega) (by omega) kk)
    · exact s_tbl (tgt := 396) 6 E dL_law_33 rfl (by decide) (by decide) rfl (by decide) (law_6 E hK hclA hBs hSBA hCa hER hX hbl hin hz a6 hl hI hCI hR (by omega) (by omega) kk)
    · exact s_tbl (tgt := 419) 7 E dL_law_33 rfl (by decide) (by decide) rfl (by decide) (law_7 E hK hclA hBs hSBA hCa hER hX hbl hin hz a7 hl hI hCI hR (by omega) (by omega) kk)
    · exact s_tbl (tgt := 452) 8 E dL_law_33 rfl (by decide) (by decide) rfl (by decide) (law_8 E hK hclA hBs hSBA hCa hER hX hbl hin hz a8 hl hI hCI hR (by omega) (by omega) kk)
    · exact s_tbl (tgt := 495) 9 E dL_law_33 rfl (by decide) (by decide) rfl (by decide) (law_9 E hK hclA hBs hSBA hCa hER hX hbl hin hz a9 hl hI hCI hR (by omega) (by omega) kk)
    · exact s_tbl (tgt := 518) 10 E dL_law_33 rfl (by decide) (by decide) rfl (by decide) (law_10 E hK hclA hBs hSBA hCa hER hX hbl hin hz a10 hl hI hCI hR (by omega) (by omega) kk)
    · exact s_tbl (tgt := 542) 11 E dL_law_33 rfl (by decide) (by decide) rfl (by decide) (law_11 E hK hclA hBs hSBA hCa hER hX hbl hin hz a11 hl hI hCI hR (by omega) (by omega) kk)
    · exact s_tbl (tgt := 575) 12 E dL_law_33 rfl (by decide) (by decide) rfl (by decide) (law_12 E hK hclA hBs hSBA hCa hER hX hbl hin hz a12 hl hI hCI hR (by omega) (by omega) kk)
    · exact s_tbl (tgt := 618) 13 E dL_law_33 rfl (by decide) (by decide) rfl (by decide) (law_13 E hK hclA hBs hSBA hCa hER hX hbl hin hz a13 hl hI hCI hR (by omega) (by omega) kk)
    · exact s_tbl (tgt := 661) 14 E dL_law_33 rfl (by decide) (by decide) rfl (by decide) (law_14 E hK hclA hBs hSBA hCa hER hX hbl hin hz a14 hl hI hCI hR (by omega) (by omega) kk)
    · exact s_tbl (tgt := 705) 15 E dL_law_33 rfl (by decide) (by decide) rfl (by decide) (law_15 E hK hclA hBs hSBA hCa hER hX hbl hin hz a15 hl hI hCI hR (by omega) (by omega) kk)
    · exact s_tbl (tgt := 749) 16 E dL_law_33 rfl (by decide) (by decide) rfl (by decide) (law_16 E hK hclA hBs hSBA hCa hER hX hbl hin hz a16 hl hI hCI hR (by omega) (by omega) kk)
    · exact s_tbl (tgt := 772) 17 E dL_law_33 rfl (by decide) (by decide) rfl (by decide) (law_17 E hK hclA hBs hSBA hCa hER hX hbl hin hz a17 hl hI hCI hR (by omega) (by omega) kk)
    · exact s_tbl (tgt := 785) 18 E dL_law_33 rfl (by decide) (by decide) rfl (by decide) (law_18 E hK hclA hBs hSBA hCa hER hX hbl hin hz a18 hl hI hCI hR (by omega) (by omega) kk)
    · exact s_tbl (tgt := 798) 19 E dL_law_33 rfl (by decide) (by decide) rfl (by decide) (law_19 E hK hclA hBs hSBA hCa hER hX hbl hin hz a19 hl hI hCI hR (by omega) (by omega) kk)
    · exact s_tbl (tgt := 821) 20 E dL_law_33 rfl (by decide) (by decide) rfl (by decide) (law_20 E hK hclA hBs hSBA hCa hER hX hbl hin hz a20 hl hI hCI hR (by omega) (by omega) kk)
    · exact s_tbl (tgt := 864) 21 E dL_law_33 rfl (by decide) (by decide) rfl (by decide) (law_21 E hK hclA hBs hSBA hCa hER hX hbl hin hz a21 hl hI hCI hR (by omega) (by omega) kk)
    · exact s_tbl (tgt := 907) 22 E dL_law_33 rfl (by decide) (by decide) rfl (by decide) (law_22 E hK hclA hBs hSBA hCa hER hX hbl hin hz a22 hl hI hCI hR (by omega) (by omega) kk)
    · exact s_tbl (tgt := 970) 23 E dL_law_33 rfl (by decide) (by decide) rfl (by decide) (law_23 E hK hclA hBs hSBA hCa hER hX hbl hin hz a23 hl hI hCI hR (by omega) (by omega) kk)
    · exact s_tbl (tgt := 1023) 24 E dL_law_33 rfl (by decide) (by decide) rfl (by decide) (law_24 E hK hclA hBs hSBA hCa hER hX hbl hin hz a24 hl hI hCI hR (by omega) (by omega) kk)
    · refine lv_tableOut (tgt := 1056) hx hb dL_law_33 (Or.inr ?_) (by decide) (W.widen (k := 1000 + 10 * k + 10) (n := 20000 + 198 * k + 198) (by omega) (by omega) (kk ad2 K S z t G L O G' H locs rfl hI hCI hR))
      rw [nI_toInt (by omega)]
      omega
end LO
