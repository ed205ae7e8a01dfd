section LW
variable {p : Program} {l : Launch} {e : Env} {s : State} {m : MethodId} {below : List Frame} {meth : Method} {c : Code} {Q : State → Prop} {D : va_G} {KM : List Nat} {shR : Nat → Ent} {ad1 adK adV : Nat → Nat} {cy : Nat → ClassId} {b n : Nat} {xs : Nat → Int32} {B : State → Prop} {L' : MemL} {O' : MemO} {i : Int32} {RR : Nat → Nat → Mem → MemL → MemO → (Nat → Nat) → Mem → Prop}
theorem law_9 (E : Cx p s m #[Value.ref b] meth c RL cL_law 4 (some .boolean)) (hK : KS D cy s) (hclA : Bcl (AL s) B) (hBs : B s) (hSBA : ∀ U, B U → SB adK adV (AL s) U) (hCa : ∀ U, B U → CaS U) (hER : ∀ q ∈ shM, q.1 ∈ KM ∧ shR q.1 = q.2) (hX : va_X b n xs s s.heap) (hbl : b < s.heap.size) (hin : ∀ k : Int32, 0 ≤ k → k ≤ 5 → vp_in (i + k) n) (hz : ∀ z t G L O S G', RR z t G L O S G' → z ≤ 10) (hA : Ag_wrong RR) {ls : Array Slot} {H : Heap} {locs : List Loc} {cells slots z t : Nat} {K : List Nat} {ad2 : Nat → Nat} {S : Nat → Nat} {G G' : Mem} {L : MemL} {O : MemO} (hl : lv_has ls 4 [(0, .ref b), (1, .ref (ad2 100)), (2, .ref (ad1 0)), (3, .int i)]) (hI : IS D K (shN S) ad2 cy (wS KM shR ad1 cy G' L' O' ++ []) (AL s) s.heap H locs G L O) (hCI : CI K S O z t) (hR : RR z t G L O S G') (hcc : cells + 10 ≤ 600000) (hss : slots + 198 ≤ 7302250)
    (kk : ∀ (ad3 : Nat → Nat) (K1 : List Nat) (S1 : Nat → Nat) (z1 t1 : Nat) (G1 : Mem) (L1 : MemL) (O1 : MemO) (G1' : Mem) (H : Heap) (locs : List Loc), ad3 100 = ad2 100 → IS D K1 (shN S1) ad3 cy (wS KM shR ad1 cy G1' L' O' ++ []) (AL s) s.heap H locs G1 L1 O1 → CI K1 S1 O1 z1 t1 → RR z1 t1 G1 L1 O1 S1 G1' → W p l e room_1 s m #[Value.ref b] below meth c H locs (cells + 10) (slots + 198) Q (F0 m 1056 ls [])) : W p l e room_1 s m #[Value.ref b] below meth c H locs cells slots Q (F0 m 495 ls []) := by
  obtain ⟨hx, hb, -, hml, hown, hu, -⟩ := id E
  have hbA : ¬ AL s b := fun q => Nat.lt_irrefl _ (Nat.lt_of_lt_of_le hbl q)
  refine lv_aload_n hx hb dL_law_495 rfl (lv_at hl 1 rfl) ?_
  refine lv_aload_n hx hb dL_law_496 rfl (lv_at hl 0 rfl) ?_
  refine lv_iload_n hx hb dL_law_497 rfl (lv_at hl 3 rfl) ?_
  refine lv_iconst (v := 1) hx hb dL_law_498 (by decide) ?_
  refine lv_iadd hx hb dL_law_499 ?_
  refine va_sld hx hb hX hbl hbA hI.2.2 (hin 1 (by decide) (by decide)) dL_law_500 ?_
  have hAx := hA z t G L O S G' (xs (i + 1).toNatClampNeg) hR
  obtain ⟨G1, L1, O1, G1', v, f1, f2, hOW, hR1⟩ := hAx
  refine s_afI hI (s_runVL (rest := []) (As := [.int (xs (i + 1).toNatClampNeg)]) (np := 1) E hK hI (s_B hclA hBs hI) hclA.2 (mE hCI.1.1 eC_100) rfl (c_X11_wrong l D K (shN S) ad2 cy _ B (hclA.mono (s_inA hI)) S hCI.1 G L O (xs (i + 1).toNatClampNeg) f1) kyX11_wrong u4_24 u4_25 u4_26 (by decide) rfl hl.1 rfl (Nat.le_of_ble_eq_true rfl) ⟨by omega, by omega⟩ dL_law_501) (fun H locs hI => ?_)
  replace hI := IS_swap hI
  refine lv_aload_n hx hb dL_law_504 rfl (lv_at hl 2 rfl) ?_
  refine lv_aload_n hx hb dL_law_505 rfl (lv_at hl 0 rfl) ?_
  refine lv_iload_n hx hb dL_law_506 rfl (lv_at hl 3 rfl) ?_
  refine lv_iconst (v := 1) hx hb dL_law_507 (by decide) ?_
  refine lv_iadd hx hb dL_law_508 ?_
  refine va_sld hx hb hX hbl hbA hI.2.2 (hin 1 (by decide) (by decide)) dL_law_509 ?_
  refine s_afI hI (s_runVL (rest := [.int v]) (As := [.int (xs (i + 1).toNatClampNeg)]) (np := 1) E hK hI (s_B hclA hBs hI) hclA.2 (mE hER eM_0) rfl (c_X12_wrong l D KM shR ad1 cy _ B (hclA.mono (s_inA hI)) hER G' L' O' (xs (i + 1).toNatClampNeg) f2) kyX12_wrong u6_48 u6_49 u6_50 (by decide) rfl hl.1 rfl (Nat.le_of_ble_eq_true rfl) ⟨by omega, by omega⟩ dL_law_510) (fun H locs hI => ?_)
  replace hI := IS_swap hI
  refine lv_icmp_eq (tgt := 1056) hx hb dL_law_513 (by decide) (fun _ => ?_) (fun c => absurd rfl c)
  refine W.widen (by omega) (by omega) (kk ad2 K S z t G1 L1 O1 G1' _ _ rfl hI (CI_OW hCI hOW) hR1)
theorem law_10 (E : Cx p s m #[Value.ref b] meth c RL cL_law 4 (some .boolean)) (hK : KS D cy s) (hclA : Bcl (AL s) B) (hBs : B s) (hSBA : ∀ U, B U → SB adK adV (AL s) U) (hCa : ∀ U, B U → CaS U) (hER : ∀ q ∈ shM, q.1 ∈ KM ∧ shR q.1 = q.2) (hX : va_X b n xs s s.heap) (hbl : b < s.heap.size) (hin : ∀ k : Int32, 0 ≤ k → k ≤ 5 → vp_in (i + k) n) (hz : ∀ z t G L O S G', RR z t G L O S G' → z ≤ 10) (hA : Ag_bad RR) {ls : Array Slot} {H : Heap} {locs : List Loc} {cells slots z t : Nat} {K : List Nat} {ad2 : Nat → Nat} {S : Nat → Nat} {G G' : Mem} {L : MemL} {O : MemO} (hl : lv_has ls 4 [(0, .ref b), (1, .ref (ad2 100)), (2, .ref (ad1 0)), (3, .int i)]) (hI : IS D K (shN S) ad2 cy (wS KM shR ad1 cy G' L' O' ++ []) (AL s) s.heap H locs G L O) (hCI : CI K S O z t) (hR : RR z t G L O S G') (hcc : cells + 10 ≤ 600000) (hss : slots + 198 ≤ 7302250)
    (kk : ∀ (ad3 : Nat → Nat) (K1 : List Nat) (S1 : Nat → Nat) (z1 t1 : Nat) (G1 : Mem) (L1 : MemL) (O1 : MemO) (G1' : Mem) (H : Heap) (locs : List Loc), ad3 100 = ad2 100 → IS D K1 (shN S1) ad3 cy (wS KM shR ad1 cy G1' L' O' ++ []) (AL s) s.heap H locs G1 L1 O1 → CI K1 S1 O1 z1 t1 → RR z1 t1 G1 L1 O1 S1 G1' → W p l e room_1 s m #[Value.ref b] below meth c H locs (cells + 10) (slots + 198) Q (F0 m 1056 ls [])) : W p l e room_1 s m #[Value.ref b] below meth c H locs cells slots Q (F0 m 518 ls []) := by
  obtain ⟨hx, hb, -, hml, hown, hu, -⟩ := id E
  have hbA : ¬ AL s b := fun q => Nat.lt_irrefl _ (Nat.lt_of_lt_of_le hbl q)
  refine lv_aload_n hx hb dL_law_518 rfl (lv_at hl 1 rfl) ?_
  refine lv_aload_n hx hb dL_law_519 rfl (lv_at hl 0 rfl) ?_
  refine lv_iload_n hx hb dL_law_520 rfl (lv_at hl 3 rfl) ?_
  refine lv_iconst (v := 1) hx hb dL_law_521 (by decide) ?_
  refine lv_iadd hx hb dL_law_522 ?_
  refine va_sld hx hb hX hbl hbA hI.2.2 (hin 1 (by decide) (by decide)) dL_law_523 ?_
  have hAx := hA z t G L O S G' (xs (i + 1).toNatClampNeg) hR
  obtain ⟨G1, L1, O1, G1', v, f1, f2, hOW, hR1⟩ := hAx
  refine s_afL hI (s_runVL (rest := []) (As := [.int (xs (i + 1).toNatClampNeg)]) (np := 1) E hK hI (s_B hclA hBs hI) hclA.2 (mE hCI.1.1 eC_100) rfl (c_X11_bad l D K (shN S) ad2 cy _ B (hclA.mono (s_inA hI)) S hCI.1 G L O (xs (i + 1).toNatClampNeg) f1) kyX11_bad u4_41 u4_42 u4_43 (by decide) rfl hl.1 rfl (Nat.le_of_ble_eq_true rfl) ⟨by omega, by omega⟩ dL_law_524) (fun H locs hI => ?_)
  replace hI := IS_swap hI
  refine lv_aload_n hx hb dL_law_527 rfl (lv_at hl 2 rfl) ?_
  refine lv_aload_n hx hb dL_law_528 rfl (lv_at hl 0 rfl) ?_
  refine lv_iload_n hx hb dL_law_529 rfl (lv_at hl 3 rfl) ?_
  refine lv_iconst (v := 1) hx hb dL_law_530 (by decide) ?_
  refine lv_iadd hx hb dL_law_531 ?_
  refine va_sld hx hb hX hbl hbA hI.2.2 (hin 1 (by decide) (by decide)) dL_law_532 ?_
  refine s_afL hI (s_runVL (rest := [.long v]) (As := [.int (xs (i + 1).toNatClampNeg)]) (np := 1) E hK hI (s_B hclA hBs hI) hclA.2 (mE hER eM_0) rfl (c_X12_bad l D KM shR ad1 cy _ B (hclA.mono (s_inA hI)) hER G' L' O' (xs (i + 1).toNatClampNeg) f2) kyX12_bad u6_68 u6_69 u6_70 (by decide) rfl hl.1 rfl (Nat.le_of_ble_eq_true rfl) ⟨by omega, by omega⟩ dL_law_533) (fun H locs hI => ?_)
  replace hI := IS_swap hI
  refine W.lcmp hx hb dL_law_536 ?_
  refine lv_if_eq (tgt := 1056) hx hb dL_law_537 (by decide) (fun _ => ?_) (fun c => absurd (lg_self v) c)
  refine W.widen (by omega) (by omega) (kk ad2 K S z t G1 L1 O1 G1' _ _ rfl hI (CI_OW hCI hOW) hR1)
theorem law_11 (E : Cx p s m #[Value.ref b] meth c RL cL_law 4 (some .boolean)) (hK : KS D cy s) (hclA : Bcl (AL s) B) (hBs : B s) (hSBA : ∀ U, B U → SB adK adV (AL s) U) (hCa : ∀ U, B U → CaS U) (hER : ∀ q ∈ shM, q.1 ∈ KM ∧ shR q.1 = q.2) (hX : va_X b n xs s s.heap) (hbl : b < s.heap.size) (hin : ∀ k : Int32, 0 ≤ k → k ≤ 5 → vp_in (i + k) n) (hz : ∀ z t G L O S G', RR z t G L O S G' → z ≤ 10) (hA : Ag_breaths RR) {ls : Array Slot} {H : Heap} {locs : List Loc} {cells slots z t : Nat} {K : List Nat} {ad2 : Nat → Nat} {S : Nat → Nat} {G G' : Mem} {L : MemL} {O : MemO} (hl : lv_has ls 4 [(0, .ref b), (1, .ref (ad2 100)), (2, .ref (ad1 0)), (3, .int i)]) (hI : IS D K (shN S) ad2 cy (wS KM shR ad1 cy G' L' O' ++ []) (AL s) s.heap H locs G L O) (hCI : CI K S O z t) (hR : RR z t G L O S G') (hcc : cells + 10 ≤ 600000) (hss : slots + 198 ≤ 7302250)
    (kk : ∀ (ad3 : Nat → Nat) (K1 : List Nat) (S1 : Nat → Nat) (z1 t1 : Nat) (G1 : Mem) (L1 : MemL) (O1 : MemO) (G1' : Mem) (H : Heap) (locs : List Loc), ad3 100 = ad2 100 → IS D K1 (shN S1) ad3 cy (wS KM shR ad1 cy G1' L' O' ++ []) (AL s) s.heap H locs G1 L1 O1 → CI K1 S1 O1 z1 t1 → RR z1 t1 G1 L1 O1 S1 G1' → W p l e room_1 s m #[Value.ref b] below meth c H locs (cells + 10) (slots + 198) Q (F0 m 1056 ls [])) : W p l e room_1 s m #[Value.ref b] below meth c H locs cells slots Q (F0 m 542 ls []) := by
  obtain ⟨hx, hb, -, hml, hown, hu, -⟩ := id E
  have hbA : ¬ AL s b := fun q => Nat.lt_irrefl _ (Nat.lt_of_lt_of_le hbl q)
  refine lv_aload_n hx hb dL_law_542 rfl (lv_at hl 1 rfl) ?_
  refine lv_aload_n hx hb dL_law_543 rfl (lv_at hl 0 rfl) ?_
  refine lv_iload_n hx hb dL_law_544 rfl (lv_at hl 3 rfl) ?_
  refine lv_iconst (v := 1) hx hb dL_law_545 (by decide) ?_
  refine lv_iadd hx hb dL_law_546 ?_
  refine va_sld hx hb hX hbl hbA hI.2.2 (hin 1 (by decide) (by decide)) dL_law_547 ?_
  refine lv_aload_n hx hb dL_law_548 rfl (lv_at hl 0 rfl) ?_
  refine lv_iload_n hx hb dL_law_549 rfl (lv_at hl 3 rfl) ?_
  refine lv_iconst (v := 2) hx hb dL_law_550 (by decide) ?_
  refine lv_iadd hx hb dL_law_551 ?_
  refine va_sld hx hb hX hbl hbA hI.2.2 (hin 2 (by decide) (by decide)) dL_law_552 ?_
  have hAx := hA z t G L O S G' (xs (i + 1).toNatClampNeg) (xs (i + 2).toNatClampNeg) hR
  obtain ⟨G1, L1, O1, G1', v, f1, f2, hOW, hR1⟩ := hAx
  refine s_afI hI (s_runVL (rest := []) (As := [.int (xs (i + 1).toNatClampNeg), .int (xs (i + 2).toNatClampNeg)]) (np := 2) E hK hI (s_B hclA hBs hI) hclA.2 (mE hCI.1.1 eC_100) rfl (c_X11_breaths l D K (shN S) ad2 cy _ B (hclA.mono (s_inA hI)) S hCI.1 G L O (xs (i + 1).toNatClampNeg) (xs (i + 2).toNatClampNeg) f1) kyX11_breaths u4_58 u4_59 u4_60 (by decide) rfl hl.1 rfl (Nat.le_of_ble_eq_true rfl) ⟨by omega, by omega⟩ dL_law_553) (fun H locs hI => ?_)
  replace hI := IS_swap hI
  refine lv_aload_n hx hb dL_law_556 rfl (lv_at hl 2 rfl) ?_
  refine lv_aload_n hx hb dL_law_557 rfl (lv_at hl 0 rfl) ?_
  refine lv_iload_n hx hb dL_law_558 rfl (lv_at hl 3 rfl) ?_
  refine lv_iconst (v := 1) hx hb dL_law_559 (by decide) ?_
  refine lv_iadd hx hb dL_law_560 ?_
  refine va_sld hx hb hX hbl hbA hI.2.2 (hin 1 (by decide) (by decide)) dL_law_561 ?_
  refine lv_aload_n hx hb dL_law_562 rfl (lv_at hl 0 rfl) ?_
  refine lv_iload_n hx hb dL_law_563 rfl (lv_at hl 3 rfl) ?_
  refine lv_iconst (v := 2) hx hb dL_law_564 (by decide) ?_
  refine lv_iadd hx hb dL_law_565 ?_
  refine va_sld hx hb hX hbl hbA hI.2.2 (hin 2 (by decide) (by decide)) dL_law_566 ?_
  refine s_afI hI (s_runVL (rest := [.int v]) (As := [.int (xs (i + 1).toNatClampNeg), .int (xs (i + 2).toNatClampNeg)]) (np := 2) E hK hI (s_B hclA hBs hI) hclA.2 (mE hER eM_0) rfl (c_X12_breaths l D KM shR ad1 cy _ B (hclA.mono (s_inA hI)) hER G' L' O' (xs (i + 1).toNatClampNeg) (xs (i + 2).toNatClampNeg) f2) kyX12_breaths u6_80 u6_81 u6_82 (by decide) rfl hl.1 rfl (Nat.le_of_ble_eq_true rfl) ⟨by omega, by omega⟩ dL_law_567) (fun H locs hI => ?_)
  replace hI := IS_swap hI
  refine lv_icmp_eq (tgt := 1056) hx hb dL_law_570 (by decide) (fun _ => ?_) (fun c => absurd rfl c)
  refine W.widen (by omega) (by omega) (kk ad2 K S z t G1 L1 O1 G1' _ _ rfl hI (CI_OW hCI hOW) hR1)
theorem law_12 (E : Cx p s m #[Value.ref b] meth c RL cL_law 4 (some .boolean)) (hK : KS D cy s) (hclA : Bcl (AL s) B) (hBs : B s) (hSBA : ∀ U, B U → SB adK adV (AL s) U) (hCa : ∀ U, B U → CaS U) (hER : ∀ q ∈ shM, q.1 ∈ KM ∧ shR q.1 = q.2) (hX : va_X b n xs s s.heap) (hbl : b < s.heap.size) (hin : ∀ k : Int32, 0 ≤ k → k ≤ 5 → vp_in (i + k) n) (hz : ∀ z t G L O S G', RR z t G L O S G' → z ≤ 10) (hA : Ag_fewest RR) {ls : Array Slot} {H : Heap} {locs : List Loc} {cells slots z t : Nat} {K : List Nat} {ad2 : Nat → Nat} {S : Nat → Nat} {G G' : Mem} {L : MemL} {O : MemO} (hl : lv_has ls 4 [(0, .ref b), (1, .ref (ad2 100)), (2, .ref (ad1 0)), (3, .int i)]) (hI : IS D K (shN S) ad2 cy (wS KM shR ad1 cy G' L' O' ++ []) (AL s) s.heap H locs G L O) (hCI : CI K S O z t) (hR : RR z t G L O S G') (hcc : cells + 10 ≤ 600000) (hss : slots + 198 ≤ 7302250)
    (kk : ∀ (ad3 : Nat → Nat) (K1 : List Nat) (S1 : Nat → Nat) (z1 t1 : Nat) (G1 : Mem) (L1 : MemL) (O1 : MemO) (G1' : Mem) (H : Heap) (locs : List Loc), ad3 100 = ad2 100 → IS D K1 (shN S1) ad3 cy (wS KM shR ad1 cy G1' L' O' ++ []) (AL s) s.heap H locs G1 L1 O1 → CI K1 S1 O1 z1 t1 → RR z1 t1 G1 L1 O1 S1 G1' → W p l e room_1 s m #[Value.ref b] below meth c H locs (cells + 10) (slots + 198) Q (F0 m 1056 ls [])) : W p l e room_1 s m #[Value.ref b] below meth c H locs cells slots Q (F0 m 575 ls []) := by
  obtain ⟨hx, hb, -, hml, hown, hu, -⟩ := id E
  have hbA : ¬ AL s b := fun q => Nat.lt_irrefl _ (Nat.lt_of_lt_of_le hbl q)
  refine lv_aload_n hx hb dL_law_575 rfl (lv_at hl 1 rfl) ?_
  refine lv_aload_n hx hb dL_law_576 rfl (lv_at hl 0 rfl) ?_
  refine lv_iload_n hx hb dL_law_577 rfl (lv_at hl 3 rfl) ?_
  refine lv_iconst (v := 1) hx hb dL_law_578 (by decide) ?_
  refine lv_iadd hx hb dL_law_579 ?_
  refine va_sld hx hb hX hbl hbA hI.2.2 (hin 1 (by decide) (by decide)) dL_law_580 ?_
  refine lv_aload_n hx hb dL_law_581 rfl (lv_at hl 0 rfl) ?_
  refine lv_iload_n hx hb dL_law_582 rfl (lv_at hl 3 rfl) ?_
  refine lv_iconst (v := 2) hx hb dL_law_583 (by decide) ?_
  refine lv_iadd hx hb dL_law_584 ?_
  refine va_sld hx hb hX hbl hbA hI.2.2 (hin 2 (by decide) (by decide)) dL_law_585 ?_
  refine lv_aload_n hx hb dL_law_586 rfl (lv_at hl 0 rfl) ?_
  refine lv_iload_n hx hb dL_law_587 rfl (lv_at hl 3 rfl) ?_
  refine lv_iconst (v := 3) hx hb dL_law_588 (by decide) ?_
  refine lv_iadd hx hb dL_law_589 ?_
  refine va_sld hx hb hX hbl hbA hI.2.2 (hin 3 (by decide) (by decide)) dL_law_590 ?_
  have hAx := hA z t G L O S G' (xs (i + 1).toNatClampNeg) (xs (i + 2).toNatClampNeg) (xs (i + 3).toNatClampNeg) hR
  obtain ⟨v, f1, f2, hR1⟩ := hAx
  refine s_afI hI (s_runVL (rest := []) (As := [.int (xs (i + 1).toNatClampNeg), .int (xs (i + 2).toNatClampNeg), .int (xs (i + 3).toNatClampNeg)]) (np := 3) E hK hI (s_B hclA hBs hI) hclA.2 (mE hCI.1.1 eC_100) rfl (c_X11_fewest l D K (shN S) ad2 cy _ B (hclA.mono (s_inA hI)) S hCI.1 G L O (xs (i + 1).toNatClampNeg) (xs (i + 2).toNatClampNeg) (xs (i + 3).toNatClampNeg) f1) kyX11_fewest u4_69 u4_70 u4_71 (by decide) rfl hl.1 rfl (Nat.le_of_ble_eq_true rfl) ⟨by omega, by omega⟩ dL_law_591) (fun H locs hI => ?_)
  replace hI := IS_swap hI
  refine lv_aload_n hx hb dL_law_594 rfl (lv_at hl 2 rfl) ?_
  refine lv_aload_n hx hb dL_law_595 rfl (lv_at hl 0 rfl) ?_
  refine lv_iload_n hx hb dL_law_596 rfl (lv_at hl 3 rfl) ?_
  refine lv_iconst (v := 1) hx hb dL_law_597 (by decide) ?_
  refine lv_iadd hx hb dL_law_598 ?_
  refine va_sld hx hb hX hbl hbA hI.2.2 (hin 1 (by decide) (by decide)) dL_law_599 ?_
  refine lv_aload_n hx hb dL_law_600 rfl (lv_at hl 0 rfl) ?_
  refine lv_iload_n hx hb dL_law_601 rfl (lv_at hl 3 rfl) ?_
  refine lv_iconst (v := 2) hx hb dL_law_602 (by decide) ?_
  refine lv_iadd hx hb dL_law_603 ?_
  refine va_sld hx hb hX hbl hbA hI.2.2 (hin 2 (by decide) (by decide)) dL_law_604 ?_
  refine lv_aload_n hx hb dL_law_605 rfl (lv_at hl 0 rfl) ?_
  refine lv_iload_n hx hb dL_law_606 rfl (lv_at hl 3 rfl) ?_
  refine lv_iconst (v := 3) hx hb dL_law_607 (by decide) ?_
  refine lv_iadd hx hb dL_law_608 ?_
  refine va_sld hx hb hX hbl hbA hI.2.2 (hin 3 (by decide) (by decide)) dL_law_609 ?_
  refine s_afI hI (s_runVL (rest := [.int v]) (As := [.int (xs (i + 1).toNatClampNeg), .int (xs (i + 2).toNatClampNeg), .int (xs (i + 3).toNatClampNeg)]) (np := 3) E hK hI (s_B hclA hBs hI) hclA.2 (mE hER eM_0) rfl (c_X12_fewest l D KM shR ad1 cy _ B (hclA.mono (s_inA hI)) hER G' L' O' (xs (i + 1).toNatClampNeg) (xs (i + 2).toNatClampNeg) (xs (i + 3).toNatClampNeg) f2) kyX12_fewest u6_84 u6_85 u6_86 (by decide) rfl hl.1 rfl (Nat.le_of_ble_eq_true rfl) ⟨by omega, by omega⟩ dL_law_610) (fun H locs hI => ?_)
  replace hI := IS_swap hI
  refine lv_icmp_eq (tgt := 1056) hx hb dL_law_613 (by decide) (fun _ => ?_) (fun c => absurd rfl c)
  refine W.widen (by omega) (by omega) (kk ad2 K S z t G L O G' _ _ rfl hI hCI hR1)
theorem law_13 (E : Cx p s m #[Value.ref b] meth c RL cL_law 4 (some .boolean)) (hK : KS D cy s) (hclA : Bcl (AL s) B) (hBs : B s) (hSBA : ∀ U, B U → SB adK adV (AL s) U) (hCa : ∀ U, B U → CaS U) (hER : ∀ q ∈ shM, q.1 ∈ KM ∧ shR q.1 = q.2) (hX : va_X b n xs s s.heap) (hbl : b < s.heap.size) (hin : ∀ k : Int32, 0 ≤ k → k ≤ 5 → vp_in (i + k) n) (hz : ∀ z t G L O S G', RR z t G L O S G' → z ≤ 10) (hA : Ag_round RR) {ls : Array Slot} {H : Heap} {locs : List Loc} {cells slots z t : Nat} {K : List Nat} {ad2 : Nat → Nat} {S : Nat → Nat} {G G' : Mem} {L : MemL} {O : MemO} (hl : lv_has ls 4 [(0, .ref b), (1, .ref (ad2 100)), (2, .ref (ad1 0)), (3, .int i)]) (hI : IS D K (shN S) ad2 cy (wS KM shR ad1 cy G' L' O' ++ []) (AL s) s.heap H locs G L O) (hCI : CI K S O z t) (hR : RR z t G L O S G') (hcc : cells + 10 ≤ 600000) (hss : slots + 198 ≤ 7302250)
    (kk : ∀ (ad3 : Nat → Nat) (K1 : List Nat) (S1 : Nat → Nat) (z1 t1 : Nat) (G1 : Mem) (L1 : MemL) (O1 : MemO) (G1' : Mem) (H : Heap) (locs : List Loc), ad3 100 = ad2 100 → IS D K1 (shN S1) ad3 cy (wS KM shR ad1 cy G1' L' O' ++ []) (AL s) s.heap H locs G1 L1 O1 → CI K1 S1 O1 z1 t1 → RR z1 t1 G1 L1 O1 S1 G1' → W p l e room_1 s m #[Value.ref b] below meth c H locs (cells + 10) (slots + 198) Q (F0 m 1056 ls [])) : W p l e room_1 s m #[Value.ref b] below meth c H locs cells slots Q (F0 m 618 ls []) := by
  obtain ⟨hx, hb, -, hml, hown, hu, -⟩ := id E
  have hbA : ¬ AL s b := fun q => Nat.lt_irrefl _ (Nat.lt_of_lt_of_le hbl q)
  refine lv_aload_n hx hb dL_law_618 rfl (lv_at hl 1 rfl) ?_
  refine lv_aload_n hx hb dL_law_619 rfl (lv_at hl 0 rfl) ?_
  refine lv_iload_n hx hb dL_law_620 rfl (lv_at hl 3 rfl) ?_
  refine lv_iconst (v := 1) hx hb dL_law_621 (by decide) ?_
  refine lv_iadd hx hb dL_law_622 ?_
  refine va_sld hx hb hX hbl hbA hI.2.2 (hin 1 (by decide) (by decide)) dL_law_623 ?_
  refine lv_aload_n hx hb dL_law_624 rfl (lv_at hl 0 rfl) ?_
  refine lv_iload_n hx hb dL_law_625 rfl (lv_at hl 3 rfl) ?_
  refine lv_iconst (v := 2) hx hb dL_law_626 (by decide) ?_
  refine lv_iadd hx hb dL_law_627 ?_
  refine va_sld hx hb hX hbl hbA hI.2.2 (hin 2 (by decide) (by decide)) dL_law_628 ?_
  refine lv_aload_n hx hb dL_law_629 rfl (lv_at hl 0 rfl) ?_
  refine lv_iload_n hx hb dL_law_630 rfl (lv_at hl 3 rfl) ?_
  refine lv_iconst (v := 3) hx hb dL_law_631 (by decide) ?_
  refine lv_iadd hx hb dL_law_632 ?_
  refine va_sld hx hb hX hbl hbA hI.2.2 (hin 3 (by decide) (by decide)) dL_law_633 ?_
  have hAx := hA z t G L O S G' (xs (i + 1).toNatClampNeg) (xs (i + 2).toNatClampNeg) (xs (i + 3).toNatClampNeg) hR
  obtain ⟨G1, L1, O1, G1', v, f1, f2, hOW, hR1⟩ := hAx
  refine s_afI hI (s_runVL (rest := []) (As := [.int (xs (i + 1).toNatClampNeg), .int (xs (i + 2).toNatClampNeg), .int (xs (i + 3).toNatClampNeg)]) (np := 3) E hK hI (s_B hclA hBs hI) hclA.2 (mE hCI.1.1 eC_100) rfl (c_X11_round l D K (shN S) ad2 cy _ B (hclA.mono (s_inA hI)) S hCI.1 G L O (xs (i + 1).toNatClampNeg) (xs (i + 2).toNatClampNeg) (xs (i + 3).toNatClampNeg) f1) kyX11_round u4_73 u4_74 u4_75 (by decide) rfl hl.1 rfl (Nat.le_of_ble_eq_true rfl) ⟨by omega, by omega⟩ dL_law_634) (fun H locs hI => ?_)
  replace hI := IS_swap hI
  refine lv_aload_n hx hb dL_law_637 rfl (lv_at hl 2 rfl) ?_
  refine lv_aload_n hx hb dL_law_638 rfl (lv_at hl 0 rfl) ?_
  refine lv_iload_n hx hb dL_law_639 rfl (lv_at hl 3 rfl) ?_
  refine lv_iconst (v := 1) hx hb dL_law_640 (by decide) ?_
  refine lv_iadd hx hb dL_law_641 ?_
  refine va_sld hx hb hX hbl hbA hI.2.2 (hin 1 (by decide) (by decide)) dL_law_642 ?_
  refine lv_aload_n hx hb dL_law_643 rfl (lv_at hl 0 rfl) ?_
  refine lv_iload_n hx hb dL_law_644 rfl (lv_at hl 3 rfl) ?_
  refine lv_iconst (v := 2) hx hb dL_law_645 (by decide) ?_
  refine lv_iadd hx hb dL_law_646 ?_
  refine va_sld hx hb hX hbl hbA hI.2.2 (hin 2 (by decide) (by decide)) dL_law_647 ?_
  refine lv_aload_n hx hb dL_law_648 rfl (lv_at hl 0 rfl) ?_
  refine lv_iload_n hx hb dL_law_649 rfl (lv_at hl 3 rfl) ?_
  refine lv_iconst (v := 3) hx hb dL_law_650 (by decide) ?_
  refine lv_iadd hx hb dL_law_651 ?_
  refine va_sld hx hb hX hbl hbA hI.2.2 (hin 3 (by decide) (by decide)) dL_law_652 ?_
  refine s_afI hI (s_runVL (rest := [.int v]) (As := [.int (xs (i + 1).toNatClampNeg), .int (xs (i + 2).toNatClampNeg), .int (xs (i + 3).toNatClampNeg)]) (np := 3) E hK hI (s_B hclA hBs hI) hclA.2 (mE hER eM_0) rfl (c_X12_round l D KM shR ad1 cy _ B (hclA.mono (s_inA hI)) hER G' L' O' (xs (i + 1).toNatClampNeg) (xs (i + 2).toNatClampNeg) (xs (i + 3).toNatClampNeg) f2) kyX12_round u6_88 u6_89 u6_90 (by decide) rfl hl.1 rfl (Nat.le_of_ble_eq_true rfl) ⟨by omega, by omega⟩ dL_law_653) (fun H locs hI => ?_)
  replace hI := IS_swap hI
  refine lv_icmp_eq (tgt := 1056) hx hb dL_law_656 (by decide) (fun _ => ?_) (fun c => absurd rfl c)
  refine W.widen (by omega) (by omega) (kk ad2 K S z t G1 L1 O1 G1' _ _ rfl hI (CI_OW hCI hOW) hR1)
theorem law_14 (E : Cx p s m #[Value.ref b] meth c RL cL_law 4 (some .boolean)) (hK : KS D cy s) (hclA : Bcl (AL s) B) (hBs : B s) (hSBA : ∀ U, B U → SB adK adV (AL s) U) (hCa : ∀ U, B U → CaS U) (hER : ∀ q ∈ shM, q.1 ∈ KM ∧ shR q.1 = q.2) (hX : va_X b n xs s s.heap) (hbl : b < s.heap.size) (hin : ∀ k : Int32, 0 ≤ k → k ≤ 5 → vp_in (i + k) n) (hz : ∀ z t G L O S G', RR z t G L O S G' → z ≤ 10) (hA : Ag_lent RR) {ls : Array Slot} {H : Heap} {locs : List Loc} {cells slots z t : Nat} {K : List Nat} {ad2 : Nat → Nat} {S : Nat → Nat} {G G' : Mem} {L : MemL} {O : MemO} (hl : lv_has ls 4 [(0, .ref b), (1, .ref (ad2 100)), (2, .ref (ad1 0)), (3, .int i)]) (hI : IS D K (shN S) ad2 cy (wS KM shR ad1 cy G' L' O' ++ []) (AL s) s.heap H locs G L O) (hCI : CI K S O z t) (hR : RR z t G L O S G') (hcc : cells + 10 ≤ 600000) (hss : slots + 198 ≤ 7302250)
    (kk : ∀ (ad3 : Nat → Nat) (K1 : List Nat) (S1 : Nat → Nat) (z1 t1 : Nat) (G1 : Mem) (L1 : MemL) (O1 : MemO) (G1' : Mem) (H : Heap) (locs : List Loc), ad3 100 = ad2 100 → IS D K1 (shN S1) ad3 cy (wS KM shR ad1 cy G1' L' O' ++ []) (AL s) s.heap H locs G1 L1 O1 → CI K1 S1 O1 z1 t1 → RR z1 t1 G1 L1 O1 S1 G1' → W p l e room_1 s m #[Value.ref b] below meth c H locs (cells + 10) (slots + 198) Q (F0 m 1056 ls [])) : W p l e room_1 s m #[Value.ref b] below meth c H locs cells slots Q (F0 m 661 ls []) := by
  obtain ⟨hx, hb, -, hml, hown, hu, -⟩ := id E
  have hbA : ¬ AL s b := fun q => Nat.lt_irrefl _ (Nat.lt_of_lt_of_le hbl q)
  refine lv_aload_n hx hb dL_law_661 rfl (lv_at hl 1 rfl) ?_
  refine lv_aload_n hx hb dL_law_662 rfl (lv_at hl 0 rfl) ?_
  refine lv_iload_n hx hb dL_law_663 rfl (lv_at hl 3 rfl) ?_
  refine lv_iconst (v := 1) hx hb dL_law_664 (by decide) ?_
  refine lv_iadd hx hb dL_law_665 ?_
  refine va_sld hx hb hX hbl hbA hI.2.2 (hin 1 (by decide) (by decide)) dL_law_666 ?_
  refine lv_aload_n hx hb dL_law_667 rfl (lv_at hl 0 rfl) ?_
  refine lv_iload_n hx hb dL_law_668 rfl (lv_at hl 3 rfl) ?_
  refine lv_iconst (v := 2) hx hb dL_law_669 (by decide) ?_
  refine lv_iadd hx hb dL_law_670 ?_
  refine va_sld hx hb hX hbl hbA hI.2.2 (hin 2 (by decide) (by decide)) dL_law_671 ?_
  refine lv_aload_n hx hb dL_law_672 rfl (lv_at hl 0 rfl) ?_
  refine lv_iload_n hx hb dL_law_673 rfl (lv_at hl 3 rfl) ?_
  refine lv_iconst (v := 3) hx hb dL_law_674 (by decide) ?_
  refine lv_iadd hx hb dL_law_675 ?_
  refine va_sld hx hb hX hbl hbA hI.2.2 (hin 3 (by decide) (by decide)) dL_law_676 ?_
  have hAx := hA z t G L O S G' (xs (i + 1).toNatClampNeg) (xs (i + 2).toNatClampNeg) (xs (i + 3).toNatClampNeg) hR
  obtain ⟨G1, L1, O1, G1', v, f1, f2, hOW, hR1⟩ := hAx
  refine s_afL hI (s_runVL (rest := []) (As := [.int (xs (i + 1).toNatClampNeg), .int (xs (i + 2).toNatClampNeg), .int (xs (i + 3).toNatClampNeg)]) (np := 3) E hK hI (s_B hclA hBs hI) hclA.2 (mE hCI.1.1 eC_100) rfl (c_X11_lent l D K (shN S) ad2 cy _ B (hclA.mono (s_inA hI)) S hCI.1 G L O (xs (i + 1).toNatClampNeg) (xs (i + 2).toNatClampNeg) (xs (i + 3).toNatClampNeg) f1) kyX11_lent u4_85 u4_86 u4_87 (by decide) rfl hl.1 rfl (Nat.le_of_ble_eq_true rfl) ⟨by omega, by omega⟩ dL_law_677) (fun H locs hI => ?_)
  replace hI := IS_swap hI
  refine lv_aload_n hx hb dL_law_680 rfl (lv_at hl 2 rfl) ?_
  refine lv_aload_n hx hb dL_law_681 rfl (lv_at hl 0 rfl) ?_
  refine lv_iload_n hx hb dL_law_682 rfl (lv_at hl 3 rfl) ?_
  refine lv_iconst (v := 1) hx hb dL_law_683 (by decide) ?_
  refine lv_iadd hx hb dL_law_684 ?_
  refine va_sld hx hb hX hbl hbA hI.2.2 (hin 1 (by decide) (by decide)) dL_law_685 ?_
  refine lv_aload_n hx hb dL_law_686 rfl (lv_at hl 0 rfl) ?_
  refine lv_iload_n hx hb dL_law_687 rfl (lv_at hl 3 rfl) ?_
  refine lv_iconst (v := 2) hx hb dL_law_688 (by decide) ?_
  refine lv_iadd hx hb dL_law_689 ?_
  refine va_sld hx hb hX hbl hbA hI.2.2 (hin 2 (by decide) (by decide)) dL_law_690 ?_
  refine lv_aload_n hx hb dL_law_691 rfl (lv_at hl 0 rfl) ?_
  refine lv_iload_n hx hb dL_law_692 rfl (lv_at hl 3 rfl) ?_
  refine lv_iconst (v := 3) hx hb dL_law_693 (by decide) ?_
  refine lv_iadd hx hb dL_law_694 ?_
  refine va_sld hx hb hX hbl hbA hI.2.2 (hin 3 (by decide) (by decide)) dL_law_695 ?_
  refine s_afL hI (s_runVL (rest := [.long v]) (As := [.int (xs (i + 1).toNatClampNeg), .int (xs (i + 2).toNatClampNeg), .int (xs (i + 3).toNatClampNeg)]) (np := 3) E hK hI (s_B hclA hBs hI) hclA.2 (mE hER eM_0) rfl (c_X12_lent l D KM shR ad1 cy _ B (hclA.mono (s_inA hI)) hER G' L' O' (xs (i + 1).toNatClampNeg) (xs (i + 2).toNatClampNeg) (xs (i + 3).toNatClampNeg) f2) kyX12_lent u6_96 u6_97 u6_98 (by decide) rfl hl.1 rfl (Nat.le_of_ble_eq_true rfl) ⟨by omega, by omega⟩ dL_law_696) (fun H locs hI => ?_)
  replace hI := IS_swap hI
  refine W.lcmp hx hb dL_law_699 ?_
  refine lv_if_eq (tgt := 1056) hx hb dL_law_700 (by decide) (fun _ => ?_) (fun c => absurd (lg_self v) c)
  refine W.widen (by omega) (by omega) (kk ad2 K S z t G1 L1 O1 G1' _ _ rfl hI (CI_OW hCI hOW) hR1)
theorem law_15 (E : Cx p s m #[Value.ref b] meth c RL cL_law 4 (some .boolean)) (hK : KS D cy s) (hclA : Bcl (AL s) B) (hBs : B s) (hSBA : ∀ U, B U → SB adK adV (AL s) U) (hCa : ∀ U, B U → CaS U) (hER : ∀ q ∈ shM, q.1 ∈ KM ∧ shR q.1 = q.2) (hX : va_X b n xs s s.heap) (hbl : b < s.heap.size) (hin : ∀ k : Int32, 0 ≤ k → k ≤ 5 → vp_in (i + k) n) (hz : ∀ z t G L O S G', RR z t G L O S G' → z ≤ 10) (hA : Ag_lost RR) {ls : Array Slot} {H : Heap} {locs : List Loc} {cells slots z t : Nat} {K : List Nat} {ad2 : Nat → Nat} {S : Nat → Nat} {G G' : Mem} {L : MemL} {O : MemO} (hl : lv_has ls 4 [(0, .ref b), (1, .ref (ad2 100)), (2, .ref (ad1 0)), (3, .int i)]) (hI : IS D K (shN S) ad2 cy (wS KM shR ad1 cy G' L' O' ++ []) (AL s) s.heap H locs G L O) (hCI : CI K S O z t) (hR : RR z t G L O S G') (hcc : cells + 10 ≤ 600000) (hss : slots + 198 ≤ 7302250)
    (kk : ∀ (ad3 : Nat → Nat) (K1 : List Nat) (S1 : Nat → Nat) (z1 t1 : Nat) (G1 : Mem) (L1 : MemL) (O1 : MemO) (G1' : Mem) (H : Heap) (locs : List Loc), ad3 100 = ad2 100 → IS D K1 (shN S1) ad3 cy (wS KM shR ad1 cy G1' L' O' ++ []) (AL s) s.heap H locs G1 L1 O1 → CI K1 S1 O1 z1 t1 → RR z1 t1 G1 L1 O1 S1 G1' → W p l e room_1 s m #[Value.ref b] below meth c H locs (cells + 10) (slots + 198) Q (F0 m 1056 ls [])) : W p l e room_1 s m #[Value.ref b] below meth c H locs cells slots Q (F0 m 705 ls []) := by
  obtain ⟨hx, hb, -, hml, hown, hu, -⟩ := id E
  have hbA : ¬ AL s b := fun q => Nat.lt_irrefl _ (Nat.lt_of_lt_of_le hbl q)
  refine lv_aload_n hx hb dL_law_705 rfl (lv_at hl 1 rfl) ?_
  refine lv_aload_n hx hb dL_law_706 rfl (lv_at hl 0 rfl) ?_
  refine lv_iload_n hx hb dL_law_707 rfl (lv_at hl 3 rfl) ?_
  refine lv_iconst (v := 1) hx hb dL_law_708 (by decide) ?_
  refine lv_iadd hx hb dL_law_709 ?_
  refine va_sld hx hb hX hbl hbA hI.2.2 (hin 1 (by decide) (by decide)) dL_law_710 ?_
  refine lv_aload_n hx hb dL_law_711 rfl (lv_at hl 0 rfl) ?_
  refine lv_iload_n hx hb dL_law_712 rfl (lv_at hl 3 rfl) ?_
  refine lv_iconst (v := 2) hx hb dL_law_713 (by decide) ?_
  refine lv_iadd hx hb dL_law_714 ?_
  refine va_sld hx hb hX hbl hbA hI.2.2 (hin 2 (by decide) (by decide)) dL_law_715 ?_
  refine lv_aload_n hx hb dL_law_716 rfl (lv_at hl 0 rfl) ?_
  refine lv_iload_n hx hb dL_law_717 rfl (lv_at hl 3 rfl) ?_
  refine lv_iconst (v := 3) hx hb dL_law_718 (by decide) ?_
  refine lv_iadd hx hb dL_law_719 ?_
  refine va_sld hx hb hX hbl hbA hI.2.2 (hin 3 (by decide) (by decide)) dL_law_720 ?_
  have hAx := hA z t G L O S G' (xs (i + 1).toNatClampNeg) (xs (i + 2).toNatClampNeg) (xs (i + 3).toNatClampNeg) hR
  obtain ⟨G1, L1, O1, G1', v, f1, f2, hOW, hR1⟩ := hAx
  refine s_afL hI (s_runVL (rest := []) (As := [.int (xs (i + 1).toNatClampNeg), .int (xs (i + 2).toNatClampNeg), .int (xs (i + 3).toNatClampNeg)]) (np := 3) E hK hI (s_B hclA hBs hI) hclA.2 (mE hCI.1.1 eC_100) rfl (c_X11_lost l D K (shN S) ad2 cy _ B (hclA.mono (s_inA hI)) S hCI.1 G L O (xs (i + 1).toNatClampNeg) (xs (i + 2).toNatClampNeg) (xs (i + 3).toNatClampNeg) f1) kyX11_lost u4_89 u4_90 u4_91 (by decide) rfl hl.1 rfl (Nat.le_of_ble_eq_true rfl) ⟨by omega, by omega⟩ dL_law_721) (fun H locs hI => ?_)
  replace hI := IS_swap hI
  refine lv_aload_n hx hb dL_law_724 rfl (lv_at hl 2 rfl) ?_
  refine lv_aload_n hx hb dL_law_725 rfl (lv_at hl 0 rfl) ?_
  refine lv_iload_n hx hb dL_law_726 rfl (lv_at hl 3 rfl) ?_
  refine lv_iconst (v := 1) hx hb dL_law_727 (by decide) ?_
  refine lv_iadd hx hb dL_law_728 ?_
  refine va_sld hx hb hX hbl hbA hI.2.2 (hin 1 (by decide) (by decide)) dL_law_729 ?_
  refine lv_aload_n hx hb dL_law_730 rfl (lv_at hl 0 rfl) ?_
  refine lv_iload_n hx hb dL_law_731 rfl (lv_at hl 3 rfl) ?_
  refine lv_iconst (v := 2) hx hb dL_law_732 (by decide) ?_
  refine lv_iadd hx hb dL_law_733 ?_
  refine va_sld hx hb hX hbl hbA hI.2.2 (hin 2 (by decide) (by decide)) dL_law_734 ?_
  refine lv_aload_n hx hb dL_law_735 rfl (lv_at hl 0 rfl) ?_
  refine lv_iload_n hx hb dL_law_736 rfl (lv_at hl 3 rfl) ?_
  refine lv_iconst (v := 3) hx hb dL_law_737 (by decide) ?_
  refine lv_iadd hx hb dL_law_738 ?_
  refine va_sld hx hb hX hbl hbA hI.2.2 (hin 3 (by decide) (by decide)) dL_law_739 ?_
  refine s_afL hI (s_runVL (rest := [.long v]) (As := [.int (xs (i + 1).toNatClampNeg), .int (xs (i + 2).toNatClampNeg), .int (xs (i + 3).toNatClampNeg)]) (np := 3) E hK hI (s_B hclA hBs hI) hclA.2 (mE hER eM_0) rfl (c_X12_lost l D KM shR ad1 cy _ B (hclA.mono (s_inA hI)) hER G' L' O' (xs (i + 1).toNatClampNeg) (xs (i + 2).toNatClampNeg) (xs (i + 3).toNatClampNeg) f2) kyX12_lost u6_100 u6_101 u6_102 (by decide) rfl hl.1 rfl (Nat.le_of_ble_eq_true rfl) ⟨by omega, by omega⟩ dL_law_740) (fun H locs hI => ?_)
  replace hI := IS_swap hI
  refine W.lcmp hx hb dL_law_743 ?_
  refine lv_if_eq (tgt := 1056) hx hb dL_law_744 (by decide) (fun _ => ?_) (fun c => absurd (lg_self v) c)
  refine W.widen (by omega) (by omega) (kk ad2 K S z t G1 L1 O1 G1' _ _ rfl hI (CI_OW hCI hOW) hR1)
theorem law_16 (E : Cx p s m #[Value.ref b] meth c RL cL_law 4 (some .boolean)) (hK : KS D cy s) (hclA : Bcl (AL s) B) (hBs : B s) (hSBA : ∀ U, B U → SB adK adV (AL s) U) (hCa : ∀ U, B U → CaS U) (hER : ∀ q ∈ shM, q.1 ∈ KM ∧ shR q.1 = q.2) (hX : va_X b n xs s s.heap) (hbl : b < s.heap.size) (hin : ∀ k : Int32, 0 ≤ k → k ≤ 5 → vp_in (i + k) n) (hz : ∀ z t G L O S G', RR z t G L O S G' → z ≤ 10) (hA : Ag_who RR) {ls : Array Slot} {H : Heap} {locs : List Loc} {cells slots z t : Nat} {K : List Nat} {ad2 : Nat → Nat} {S : Nat → Nat} {G G' : Mem} {L : MemL} {O : MemO} (hl : lv_has ls 4 [(0, .ref b), (1, .ref (ad2 100)), (2, .ref (ad1 0)), (3, .int i)]) (hI : IS D K (shN S) ad2 cy (wS KM shR ad1 cy G' L' O' ++ []) (AL s) s.heap H locs G L O) (hCI : CI K S O z t) (hR : RR z t G L O S G') (hcc : cells + 10 ≤ 600000) (hss : slots + 198 ≤ 7302250)
    (kk : ∀ (ad3 : Nat → Nat) (K1 : List Nat) (S1 : Nat → Nat) (z1 t1 : Nat) (G1 : Mem) (L1 : MemL) (O1 : MemO) (G1' : Mem) (H : Heap) (locs : List Loc), ad3 100 = ad2 100 → IS D K1 (shN S1) ad3 cy (wS KM shR ad1 cy G1' L' O' ++ []) (AL s) s.heap H locs G1 L1 O1 → CI K1 S1 O1 z1 t1 → RR z1 t1 G1 L1 O1 S1 G1' → W p l e room_1 s m #[Value.ref b] below meth c H locs (cells + 10) (slots + 198) Q (F0 m 1056 ls [])) : W p l e room_1 s m #[Value.ref b] below meth c H locs cells slots Q (F0 m 749 ls []) := by
  obtain ⟨hx, hb, -, hml, hown, hu, -⟩ := id E
  have hbA : ¬ AL s b := fun q => Nat.lt_irrefl _ (Nat.lt_of_lt_of_le hbl q)
  refine lv_aload_n hx hb dL_law_749 rfl (lv_at hl 1 rfl) ?_
  refine lv_aload_n hx hb dL_law_750 rfl (lv_at hl 0 rfl) ?_
  refine lv_iload_n hx hb dL_law_751 rfl (lv_at hl 3 rfl) ?_
  refine lv_iconst (v := 1) hx hb dL_law_752 (by decide) ?_
  refine lv_iadd hx hb dL_law_753 ?_
  refine va_sld hx hb hX hbl hbA hI.2.2 (hin 1 (by decide) (by decide)) dL_law_754 ?_
  have hAx := hA z t G L O S G' (xs (i + 1).toNatClampNeg) hR
  obtain ⟨G1, L1, O1, G1', v, f1, f2, hOW, hR1⟩ := hAx
  refine s_afI hI (s_runVL (rest := []) (As := [.int (xs (i + 1).toNatClampNeg)]) (np := 1) E hK hI (s_B hclA hBs hI) hclA.2 (mE hCI.1.1 eC_100) rfl (c_X11_who l D K (shN S) ad2 cy _ B (hclA.mono (s_inA hI)) S hCI.1 G L O (xs (i + 1).toNatClampNeg) f1) kyX11_who u4_97 u4_98 u4_99 (by decide) rfl hl.1 rfl (Nat.le_of_ble_eq_true rfl) ⟨by omega, by omega⟩ dL_law_755) (fun H locs hI => ?_)
  replace hI := IS_swap hI
  refine lv_aload_n hx hb dL_law_758 rfl (lv_at hl 2 rfl) ?_
  refine lv_aload_n hx hb dL_law_759 rfl (lv_at hl 0 rfl) ?_
  refine lv_iload_n hx hb dL_law_760 rfl (lv_at hl 3 rfl) ?_
  refine lv_iconst (v := 1) hx hb dL_law_761 (by decide) ?_
  refine lv_iadd hx hb dL_law_762 ?_
  refine va_sld hx hb hX hbl hbA hI.2.2 (hin 1 (by decide) (by decide)) dL_law_763 ?_
  refine s_afI hI (s_runVL (rest := [.int v]) (As := [.int (xs (i + 1).toNatClampNeg)]) (np := 1) E hK hI (s_B hclA hBs hI) hclA.2 (mE hER eM_0) rfl (c_X12_who l D KM shR ad1 cy _ B (hclA.mono (s_inA hI)) hER G' L' O' (xs (i + 1).toNatClampNeg) f2) kyX12_who u6_104 u6_105 u6_106 (by decide) rfl hl.1 rfl (Nat.le_of_ble_eq_true rfl) ⟨by omega, by omega⟩ dL_law_764) (fun H locs hI => ?_)
  replace hI := IS_swap hI
  refine lv_icmp_eq (tgt := 1056) hx hb dL_law_767 (by decide) (fun _ => ?_) (fun c => absurd rfl c)
  refine W.widen (by omega) (by omega) (kk ad2 K S z t G1 L1 O1 G1' _ _ rfl hI (CI_OW hCI hOW) hR1)
theorem law_17 (E : Cx p s m #[Value.ref b] meth c RL cL_law 4 (some .boolean)) (hK : KS D cy s) (hclA : Bcl (AL s) B) (hBs : B s) (hSBA : ∀ U, B U → SB adK adV (AL s) U) (hCa : ∀ U, B U → CaS U) (hER : ∀ q ∈ shM, q.1 ∈ KM ∧ shR q.1 = q.2) (hX : va_X b n xs s s.heap) (hbl : b < s.heap.size) (hin : ∀ k : Int32, 0 ≤ k → k ≤ 5 → vp_in (i + k) n) (hz : ∀ z t G L O S G', RR z t G L O S G' → z ≤ 10) (hA : Ag_image RR) {ls : Array Slot} {H : Heap} {locs : List Loc} {cells slots z t : Nat} {K : List Nat} {ad2 : Nat → Nat} {S : Nat → Nat} {G G' : Mem} {L : MemL} {O : MemO} (hl : lv_has ls 4 [(0, .ref b), (1, .ref (ad2 100)), (2, .ref (ad1 0)), (3, .int i)]) (hI : IS D K (shN S) ad2 cy (wS KM shR ad1 cy G' L' O' ++ []) (AL s) s.heap H locs G L O) (hCI : CI K S O z t) (hR : RR z t G L O S G') (hcc : cells + 10 ≤ 600000) (hss : slots + 198 ≤ 7302250)
    (kk : ∀ (ad3 : Nat → Nat) (K1 : List Nat) (S1 : Nat → Nat) (z1 t1 : Nat) (G1 : Mem) (L1 : MemL) (O1 : MemO) (G1' : Mem) (H : Heap) (locs : List Loc), ad3 100 = ad2 100 → IS D K1 (shN S1) ad3 cy (wS KM shR ad1 cy G1' L' O' ++ []) (AL s) s.heap H locs G1 L1 O1 → CI K1 S1 O1 z1 t1 → RR z1 t1 G1 L1 O1 S1 G1' → W p l e room_1 s m #[Value.ref b] below meth c H locs (cells + 10) (slots + 198) Q (F0 m 1056 ls [])) : W p l e room_1 s m #[Value.ref b] below meth c H locs cells slots Q (F0 m 772 ls []) := by
  obtain ⟨hx, hb, -, hml, hown, hu, -⟩ := id E
  have hbA : ¬ AL s b := fun q => Nat.lt_irrefl _ (Nat.lt_of_lt_of_le hbl q)
  refine lv_aload_n hx hb dL_law_772 rfl (lv_at hl 1 rfl) ?_
  have hAx := hA z t G L O S G'  hR
  obtain ⟨G1, G1', v, f1, f2, hR1⟩ := hAx
  refine s_afI hI (s_runVL (rest := []) (As := []) (np := 0) E hK hI (s_B hclA hBs hI) hclA.2 (mE hCI.1.1 eC_100) rfl (c_X11_image l D K (shN S) ad2 cy _ B (hclA.mono (s_inA hI)) S hCI.1 G L O  f1) kyX11_image u4_105 u4_106 u4_107 (by decide) rfl hl.1 rfl (Nat.le_of_ble_eq_true rfl) ⟨by omega, by omega⟩ dL_law_773) (fun H locs hI => ?_)
  replace hI := IS_swap hI
  refine lv_aload_n hx hb dL_law_776 rfl (lv_at hl 2 rfl) ?_
  refine s_afI hI (s_runVL (rest := [.int v]) (As := []) (np := 0) E hK hI (s_B hclA hBs hI) hclA.2 (mE hER eM_0) rfl (c_X12_image l D KM shR ad1 cy _ B (hclA.mono (s_inA hI)) hER G' L' O'  f2) kyX12_image u6_111 u6_112 u6_113 (by decide) rfl hl.1 rfl (Nat.le_of_ble_eq_true rfl) ⟨by omega, by omega⟩ dL_law_777) (fun H locs hI => ?_)
  replace hI := IS_swap hI
  refine lv_icmp_eq (tgt := 1056) hx hb dL_law_780 (by decide) (fun _ => ?_) (fun c => absurd rfl c)
  refine W.widen (by omega) (by omega) (kk ad2 K S z t G1 L O G1' _ _ rfl hI hCI hR1)
end LW
