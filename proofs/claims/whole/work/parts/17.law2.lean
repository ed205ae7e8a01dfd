section LW
variable {p : Program} {l : Launch} {e : Env} {s : State} {m : MethodId} {below : List Frame} {meth : Method} {c : Code} {Q : State → Prop} {D : va_G} {KM : List Nat} {shR : Nat → Ent} {ad1 adK adV : Nat → Nat} {cy : Nat → ClassId} {b n : Nat} {xs : Nat → Int32} {B : State → Prop} {L' : MemL} {O' : MemO} {i : Int32} {RR : Nat → Nat → Mem → MemL → MemO → (Nat → Nat) → Mem → Prop}
theorem law_18 (E : Cx p s m #[Value.ref b] meth c RL cL_law 4 (some .boolean)) (hK : KS D cy s) (hclA : Bcl (AL s) B) (hBs : B s) (hSBA : ∀ U, B U → SB adK adV (AL s) U) (hCa : ∀ U, B U → CaS U) (hER : ∀ q ∈ shM, q.1 ∈ KM ∧ shR q.1 = q.2) (hX : va_X b n xs s s.heap) (hbl : b < s.heap.size) (hin : ∀ k : Int32, 0 ≤ k → k ≤ 5 → vp_in (i + k) n) (hz : ∀ z t G L O S G', RR z t G L O S G' → z ≤ 10) (hA : Ag_back RR) {ls : Array Slot} {H : Heap} {locs : List Loc} {cells slots z t : Nat} {K : List Nat} {ad2 : Nat → Nat} {S : Nat → Nat} {G G' : Mem} {L : MemL} {O : MemO} (hl : lv_has ls 4 [(0, .ref b), (1, .ref (ad2 100)), (2, .ref (ad1 0)), (3, .int i)]) (hI : IS D K (shN S) ad2 cy (wS KM shR ad1 cy G' L' O' ++ []) (AL s) s.heap H locs G L O) (hCI : CI K S O z t) (hR : RR z t G L O S G') (hcc : cells + 10 ≤ 600000) (hss : slots + 198 ≤ 7302250)
    (kk : ∀ (ad3 : Nat → Nat) (K1 : List Nat) (S1 : Nat → Nat) (z1 t1 : Nat) (G1 : Mem) (L1 : MemL) (O1 : MemO) (G1' : Mem) (H : Heap) (locs : List Loc), ad3 100 = ad2 100 → IS D K1 (shN S1) ad3 cy (wS KM shR ad1 cy G1' L' O' ++ []) (AL s) s.heap H locs G1 L1 O1 → CI K1 S1 O1 z1 t1 → RR z1 t1 G1 L1 O1 S1 G1' → W p l e room_1 s m #[Value.ref b] below meth c H locs (cells + 10) (slots + 198) Q (F0 m 1056 ls [])) : W p l e room_1 s m #[Value.ref b] below meth c H locs cells slots Q (F0 m 785 ls []) := by
  obtain ⟨hx, hb, -, hml, hown, hu, -⟩ := id E
  have hbA : ¬ AL s b := fun q => Nat.lt_irrefl _ (Nat.lt_of_lt_of_le hbl q)
  refine lv_aload_n hx hb dL_law_785 rfl (lv_at hl 1 rfl) ?_
  have hAx := hA z t G L O S G'  hR
  obtain ⟨G1, G1', v, f1, f2, hR1⟩ := hAx
  refine s_afI hI (s_runVL (rest := []) (As := []) (np := 0) E hK hI (s_B hclA hBs hI) hclA.2 (mE hCI.1.1 eC_100) rfl (c_X11_back l D K (shN S) ad2 cy _ B (hclA.mono (s_inA hI)) S hCI.1 G L O  f1) kyX11_back u4_114 u4_115 u4_116 (by decide) rfl hl.1 rfl (Nat.le_of_ble_eq_true rfl) ⟨by omega, by omega⟩ dL_law_786) (fun H locs hI => ?_)
  replace hI := IS_swap hI
  refine lv_aload_n hx hb dL_law_789 rfl (lv_at hl 2 rfl) ?_
  refine s_afI hI (s_runVL (rest := [.int v]) (As := []) (np := 0) E hK hI (s_B hclA hBs hI) hclA.2 (mE hER eM_0) rfl (c_X12_back l D KM shR ad1 cy _ B (hclA.mono (s_inA hI)) hER G' L' O'  f2) kyX12_back u6_115 u6_116 u6_117 (by decide) rfl hl.1 rfl (Nat.le_of_ble_eq_true rfl) ⟨by omega, by omega⟩ dL_law_790) (fun H locs hI => ?_)
  replace hI := IS_swap hI
  refine lv_icmp_eq (tgt := 1056) hx hb dL_law_793 (by decide) (fun _ => ?_) (fun c => absurd rfl c)
  refine W.widen (by omega) (by omega) (kk ad2 K S z t G1 L O G1' _ _ rfl hI hCI hR1)
theorem law_19 (E : Cx p s m #[Value.ref b] meth c RL cL_law 4 (some .boolean)) (hK : KS D cy s) (hclA : Bcl (AL s) B) (hBs : B s) (hSBA : ∀ U, B U → SB adK adV (AL s) U) (hCa : ∀ U, B U → CaS U) (hER : ∀ q ∈ shM, q.1 ∈ KM ∧ shR q.1 = q.2) (hX : va_X b n xs s s.heap) (hbl : b < s.heap.size) (hin : ∀ k : Int32, 0 ≤ k → k ≤ 5 → vp_in (i + k) n) (hz : ∀ z t G L O S G', RR z t G L O S G' → z ≤ 10) (hA : Ag_count RR) {ls : Array Slot} {H : Heap} {locs : List Loc} {cells slots z t : Nat} {K : List Nat} {ad2 : Nat → Nat} {S : Nat → Nat} {G G' : Mem} {L : MemL} {O : MemO} (hl : lv_has ls 4 [(0, .ref b), (1, .ref (ad2 100)), (2, .ref (ad1 0)), (3, .int i)]) (hI : IS D K (shN S) ad2 cy (wS KM shR ad1 cy G' L' O' ++ []) (AL s) s.heap H locs G L O) (hCI : CI K S O z t) (hR : RR z t G L O S G') (hcc : cells + 10 ≤ 600000) (hss : slots + 198 ≤ 7302250)
    (kk : ∀ (ad3 : Nat → Nat) (K1 : List Nat) (S1 : Nat → Nat) (z1 t1 : Nat) (G1 : Mem) (L1 : MemL) (O1 : MemO) (G1' : Mem) (H : Heap) (locs : List Loc), ad3 100 = ad2 100 → IS D K1 (shN S1) ad3 cy (wS KM shR ad1 cy G1' L' O' ++ []) (AL s) s.heap H locs G1 L1 O1 → CI K1 S1 O1 z1 t1 → RR z1 t1 G1 L1 O1 S1 G1' → W p l e room_1 s m #[Value.ref b] below meth c H locs (cells + 10) (slots + 198) Q (F0 m 1056 ls [])) : W p l e room_1 s m #[Value.ref b] below meth c H locs cells slots Q (F0 m 798 ls []) := by
  obtain ⟨hx, hb, -, hml, hown, hu, -⟩ := id E
  have hbA : ¬ AL s b := fun q => Nat.lt_irrefl _ (Nat.lt_of_lt_of_le hbl q)
  refine lv_aload_n hx hb dL_law_798 rfl (lv_at hl 1 rfl) ?_
  refine lv_aload_n hx hb dL_law_799 rfl (lv_at hl 0 rfl) ?_
  refine lv_iload_n hx hb dL_law_800 rfl (lv_at hl 3 rfl) ?_
  refine lv_iconst (v := 1) hx hb dL_law_801 (by decide) ?_
  refine lv_iadd hx hb dL_law_802 ?_
  refine va_sld hx hb hX hbl hbA hI.2.2 (hin 1 (by decide) (by decide)) dL_law_803 ?_
  have hAx := hA z t G L O S G' (xs (i + 1).toNatClampNeg) hR
  obtain ⟨v, f1, f2, hR1⟩ := hAx
  refine s_afI hI (s_runVL (rest := []) (As := [.int (xs (i + 1).toNatClampNeg)]) (np := 1) E hK hI (s_B hclA hBs hI) hclA.2 (mE hCI.1.1 eC_100) rfl (c_X11_count l D K (shN S) ad2 cy _ B (hclA.mono (s_inA hI)) S hCI.1 G L O (xs (i + 1).toNatClampNeg) f1) kyX11_count u4_118 u4_119 u4_120 (by decide) rfl hl.1 rfl (Nat.le_of_ble_eq_true rfl) ⟨by omega, by omega⟩ dL_law_804) (fun H locs hI => ?_)
  replace hI := IS_swap hI
  refine lv_aload_n hx hb dL_law_807 rfl (lv_at hl 2 rfl) ?_
  refine lv_aload_n hx hb dL_law_808 rfl (lv_at hl 0 rfl) ?_
  refine lv_iload_n hx hb dL_law_809 rfl (lv_at hl 3 rfl) ?_
  refine lv_iconst (v := 1) hx hb dL_law_810 (by decide) ?_
  refine lv_iadd hx hb dL_law_811 ?_
  refine va_sld hx hb hX hbl hbA hI.2.2 (hin 1 (by decide) (by decide)) dL_law_812 ?_
  refine s_afI hI (s_runVL (rest := [.int v]) (As := [.int (xs (i + 1).toNatClampNeg)]) (np := 1) E hK hI (s_B hclA hBs hI) hclA.2 (mE hER eM_0) rfl (c_X12_count l D KM shR ad1 cy _ B (hclA.mono (s_inA hI)) hER G' L' O' (xs (i + 1).toNatClampNeg) f2) kyX12_count u6_119 u6_120 u6_121 (by decide) rfl hl.1 rfl (Nat.le_of_ble_eq_true rfl) ⟨by omega, by omega⟩ dL_law_813) (fun H locs hI => ?_)
  replace hI := IS_swap hI
  refine lv_icmp_eq (tgt := 1056) hx hb dL_law_816 (by decide) (fun _ => ?_) (fun c => absurd rfl c)
  refine W.widen (by omega) (by omega) (kk ad2 K S z t G L O G' _ _ rfl hI hCI hR1)
theorem law_20 (E : Cx p s m #[Value.ref b] meth c RL cL_law 4 (some .boolean)) (hK : KS D cy s) (hclA : Bcl (AL s) B) (hBs : B s) (hSBA : ∀ U, B U → SB adK adV (AL s) U) (hCa : ∀ U, B U → CaS U) (hER : ∀ q ∈ shM, q.1 ∈ KM ∧ shR q.1 = q.2) (hX : va_X b n xs s s.heap) (hbl : b < s.heap.size) (hin : ∀ k : Int32, 0 ≤ k → k ≤ 5 → vp_in (i + k) n) (hz : ∀ z t G L O S G', RR z t G L O S G' → z ≤ 10) (hA : Ag_sheet RR) {ls : Array Slot} {H : Heap} {locs : List Loc} {cells slots z t : Nat} {K : List Nat} {ad2 : Nat → Nat} {S : Nat → Nat} {G G' : Mem} {L : MemL} {O : MemO} (hl : lv_has ls 4 [(0, .ref b), (1, .ref (ad2 100)), (2, .ref (ad1 0)), (3, .int i)]) (hI : IS D K (shN S) ad2 cy (wS KM shR ad1 cy G' L' O' ++ []) (AL s) s.heap H locs G L O) (hCI : CI K S O z t) (hR : RR z t G L O S G') (hcc : cells + 10 ≤ 600000) (hss : slots + 198 ≤ 7302250)
    (kk : ∀ (ad3 : Nat → Nat) (K1 : List Nat) (S1 : Nat → Nat) (z1 t1 : Nat) (G1 : Mem) (L1 : MemL) (O1 : MemO) (G1' : Mem) (H : Heap) (locs : List Loc), ad3 100 = ad2 100 → IS D K1 (shN S1) ad3 cy (wS KM shR ad1 cy G1' L' O' ++ []) (AL s) s.heap H locs G1 L1 O1 → CI K1 S1 O1 z1 t1 → RR z1 t1 G1 L1 O1 S1 G1' → W p l e room_1 s m #[Value.ref b] below meth c H locs (cells + 10) (slots + 198) Q (F0 m 1056 ls [])) : W p l e room_1 s m #[Value.ref b] below meth c H locs cells slots Q (F0 m 821 ls []) := by
  obtain ⟨hx, hb, -, hml, hown, hu, -⟩ := id E
  have hbA : ¬ AL s b := fun q => Nat.lt_irrefl _ (Nat.lt_of_lt_of_le hbl q)
  refine lv_aload_n hx hb dL_law_821 rfl (lv_at hl 1 rfl) ?_
  refine lv_aload_n hx hb dL_law_822 rfl (lv_at hl 0 rfl) ?_
  refine lv_iload_n hx hb dL_law_823 rfl (lv_at hl 3 rfl) ?_
  refine lv_iconst (v := 1) hx hb dL_law_824 (by decide) ?_
  refine lv_iadd hx hb dL_law_825 ?_
  refine va_sld hx hb hX hbl hbA hI.2.2 (hin 1 (by decide) (by decide)) dL_law_826 ?_
  refine lv_aload_n hx hb dL_law_827 rfl (lv_at hl 0 rfl) ?_
  refine lv_iload_n hx hb dL_law_828 rfl (lv_at hl 3 rfl) ?_
  refine lv_iconst (v := 2) hx hb dL_law_829 (by decide) ?_
  refine lv_iadd hx hb dL_law_830 ?_
  refine va_sld hx hb hX hbl hbA hI.2.2 (hin 2 (by decide) (by decide)) dL_law_831 ?_
  refine lv_aload_n hx hb dL_law_832 rfl (lv_at hl 0 rfl) ?_
  refine lv_iload_n hx hb dL_law_833 rfl (lv_at hl 3 rfl) ?_
  refine lv_iconst (v := 3) hx hb dL_law_834 (by decide) ?_
  refine lv_iadd hx hb dL_law_835 ?_
  refine va_sld hx hb hX hbl hbA hI.2.2 (hin 3 (by decide) (by decide)) dL_law_836 ?_
  have hAx := hA z t G L O S G' (xs (i + 1).toNatClampNeg) (xs (i + 2).toNatClampNeg) (xs (i + 3).toNatClampNeg) hR
  obtain ⟨G1, G1', v, f1, f2, hR1⟩ := hAx
  refine s_afI hI (s_runVL (rest := []) (As := [.int (xs (i + 1).toNatClampNeg), .int (xs (i + 2).toNatClampNeg), .int (xs (i + 3).toNatClampNeg)]) (np := 3) E hK hI (s_B hclA hBs hI) hclA.2 (mE hCI.1.1 eC_100) rfl (c_X11_sheet l D K (shN S) ad2 cy _ B (hclA.mono (s_inA hI)) S hCI.1 G L O (xs (i + 1).toNatClampNeg) (xs (i + 2).toNatClampNeg) (xs (i + 3).toNatClampNeg) f1) kyX11_sheet u4_123 u4_124 u4_125 (by decide) rfl hl.1 rfl (Nat.le_of_ble_eq_true rfl) ⟨by omega, by omega⟩ dL_law_837) (fun H locs hI => ?_)
  replace hI := IS_swap hI
  refine lv_aload_n hx hb dL_law_840 rfl (lv_at hl 2 rfl) ?_
  refine lv_aload_n hx hb dL_law_841 rfl (lv_at hl 0 rfl) ?_
  refine lv_iload_n hx hb dL_law_842 rfl (lv_at hl 3 rfl) ?_
  refine lv_iconst (v := 1) hx hb dL_law_843 (by decide) ?_
  refine lv_iadd hx hb dL_law_844 ?_
  refine va_sld hx hb hX hbl hbA hI.2.2 (hin 1 (by decide) (by decide)) dL_law_845 ?_
  refine lv_aload_n hx hb dL_law_846 rfl (lv_at hl 0 rfl) ?_
  refine lv_iload_n hx hb dL_law_847 rfl (lv_at hl 3 rfl) ?_
  refine lv_iconst (v := 2) hx hb dL_law_848 (by decide) ?_
  refine lv_iadd hx hb dL_law_849 ?_
  refine va_sld hx hb hX hbl hbA hI.2.2 (hin 2 (by decide) (by decide)) dL_law_850 ?_
  refine lv_aload_n hx hb dL_law_851 rfl (lv_at hl 0 rfl) ?_
  refine lv_iload_n hx hb dL_law_852 rfl (lv_at hl 3 rfl) ?_
  refine lv_iconst (v := 3) hx hb dL_law_853 (by decide) ?_
  refine lv_iadd hx hb dL_law_854 ?_
  refine va_sld hx hb hX hbl hbA hI.2.2 (hin 3 (by decide) (by decide)) dL_law_855 ?_
  refine s_afI hI (s_runVL (rest := [.int v]) (As := [.int (xs (i + 1).toNatClampNeg), .int (xs (i + 2).toNatClampNeg), .int (xs (i + 3).toNatClampNeg)]) (np := 3) E hK hI (s_B hclA hBs hI) hclA.2 (mE hER eM_0) rfl (c_X12_sheet l D KM shR ad1 cy _ B (hclA.mono (s_inA hI)) hER G' L' O' (xs (i + 1).toNatClampNeg) (xs (i + 2).toNatClampNeg) (xs (i + 3).toNatClampNeg) f2) kyX12_sheet u6_123 u6_124 u6_125 (by decide) rfl hl.1 rfl (Nat.le_of_ble_eq_true rfl) ⟨by omega, by omega⟩ dL_law_856) (fun H locs hI => ?_)
  replace hI := IS_swap hI
  refine lv_icmp_eq (tgt := 1056) hx hb dL_law_859 (by decide) (fun _ => ?_) (fun c => absurd rfl c)
  refine W.widen (by omega) (by omega) (kk ad2 K S z t G1 L O G1' _ _ rfl hI hCI hR1)
theorem law_21 (E : Cx p s m #[Value.ref b] meth c RL cL_law 4 (some .boolean)) (hK : KS D cy s) (hclA : Bcl (AL s) B) (hBs : B s) (hSBA : ∀ U, B U → SB adK adV (AL s) U) (hCa : ∀ U, B U → CaS U) (hER : ∀ q ∈ shM, q.1 ∈ KM ∧ shR q.1 = q.2) (hX : va_X b n xs s s.heap) (hbl : b < s.heap.size) (hin : ∀ k : Int32, 0 ≤ k → k ≤ 5 → vp_in (i + k) n) (hz : ∀ z t G L O S G', RR z t G L O S G' → z ≤ 10) (hA : Ag_cell RR) {ls : Array Slot} {H : Heap} {locs : List Loc} {cells slots z t : Nat} {K : List Nat} {ad2 : Nat → Nat} {S : Nat → Nat} {G G' : Mem} {L : MemL} {O : MemO} (hl : lv_has ls 4 [(0, .ref b), (1, .ref (ad2 100)), (2, .ref (ad1 0)), (3, .int i)]) (hI : IS D K (shN S) ad2 cy (wS KM shR ad1 cy G' L' O' ++ []) (AL s) s.heap H locs G L O) (hCI : CI K S O z t) (hR : RR z t G L O S G') (hcc : cells + 10 ≤ 600000) (hss : slots + 198 ≤ 7302250)
    (kk : ∀ (ad3 : Nat → Nat) (K1 : List Nat) (S1 : Nat → Nat) (z1 t1 : Nat) (G1 : Mem) (L1 : MemL) (O1 : MemO) (G1' : Mem) (H : Heap) (locs : List Loc), ad3 100 = ad2 100 → IS D K1 (shN S1) ad3 cy (wS KM shR ad1 cy G1' L' O' ++ []) (AL s) s.heap H locs G1 L1 O1 → CI K1 S1 O1 z1 t1 → RR z1 t1 G1 L1 O1 S1 G1' → W p l e room_1 s m #[Value.ref b] below meth c H locs (cells + 10) (slots + 198) Q (F0 m 1056 ls [])) : W p l e room_1 s m #[Value.ref b] below meth c H locs cells slots Q (F0 m 864 ls []) := by
  obtain ⟨hx, hb, -, hml, hown, hu, -⟩ := id E
  have hbA : ¬ AL s b := fun q => Nat.lt_irrefl _ (Nat.lt_of_lt_of_le hbl q)
  refine lv_aload_n hx hb dL_law_864 rfl (lv_at hl 1 rfl) ?_
  refine lv_aload_n hx hb dL_law_865 rfl (lv_at hl 0 rfl) ?_
  refine lv_iload_n hx hb dL_law_866 rfl (lv_at hl 3 rfl) ?_
  refine lv_iconst (v := 1) hx hb dL_law_867 (by decide) ?_
  refine lv_iadd hx hb dL_law_868 ?_
  refine va_sld hx hb hX hbl hbA hI.2.2 (hin 1 (by decide) (by decide)) dL_law_869 ?_
  refine lv_aload_n hx hb dL_law_870 rfl (lv_at hl 0 rfl) ?_
  refine lv_iload_n hx hb dL_law_871 rfl (lv_at hl 3 rfl) ?_
  refine lv_iconst (v := 2) hx hb dL_law_872 (by decide) ?_
  refine lv_iadd hx hb dL_law_873 ?_
  refine va_sld hx hb hX hbl hbA hI.2.2 (hin 2 (by decide) (by decide)) dL_law_874 ?_
  refine lv_aload_n hx hb dL_law_875 rfl (lv_at hl 0 rfl) ?_
  refine lv_iload_n hx hb dL_law_876 rfl (lv_at hl 3 rfl) ?_
  refine lv_iconst (v := 3) hx hb dL_law_877 (by decide) ?_
  refine lv_iadd hx hb dL_law_878 ?_
  refine va_sld hx hb hX hbl hbA hI.2.2 (hin 3 (by decide) (by decide)) dL_law_879 ?_
  have hAx := hA z t G L O S G' (xs (i + 1).toNatClampNeg) (xs (i + 2).toNatClampNeg) (xs (i + 3).toNatClampNeg) hR
  obtain ⟨G1, G1', v, f1, f2, hR1⟩ := hAx
  refine s_afI hI (s_runVL (rest := []) (As := [.int (xs (i + 1).toNatClampNeg), .int (xs (i + 2).toNatClampNeg), .int (xs (i + 3).toNatClampNeg)]) (np := 3) E hK hI (s_B hclA hBs hI) hclA.2 (mE hCI.1.1 eC_100) rfl (c_X11_cell l D K (shN S) ad2 cy _ B (hclA.mono (s_inA hI)) S hCI.1 G L O (xs (i + 1).toNatClampNeg) (xs (i + 2).toNatClampNeg) (xs (i + 3).toNatClampNeg) f1) kyX11_cell u4_132 u4_133 u4_134 (by decide) rfl hl.1 rfl (Nat.le_of_ble_eq_true rfl) ⟨by omega, by omega⟩ dL_law_880) (fun H locs hI => ?_)
  replace hI := IS_swap hI
  refine lv_aload_n hx hb dL_law_883 rfl (lv_at hl 2 rfl) ?_
  refine lv_aload_n hx hb dL_law_884 rfl (lv_at hl 0 rfl) ?_
  refine lv_iload_n hx hb dL_law_885 rfl (lv_at hl 3 rfl) ?_
  refine lv_iconst (v := 1) hx hb dL_law_886 (by decide) ?_
  refine lv_iadd hx hb dL_law_887 ?_
  refine va_sld hx hb hX hbl hbA hI.2.2 (hin 1 (by decide) (by decide)) dL_law_888 ?_
  refine lv_aload_n hx hb dL_law_889 rfl (lv_at hl 0 rfl) ?_
  refine lv_iload_n hx hb dL_law_890 rfl (lv_at hl 3 rfl) ?_
  refine lv_iconst (v := 2) hx hb dL_law_891 (by decide) ?_
  refine lv_iadd hx hb dL_law_892 ?_
  refine va_sld hx hb hX hbl hbA hI.2.2 (hin 2 (by decide) (by decide)) dL_law_893 ?_
  refine lv_aload_n hx hb dL_law_894 rfl (lv_at hl 0 rfl) ?_
  refine lv_iload_n hx hb dL_law_895 rfl (lv_at hl 3 rfl) ?_
  refine lv_iconst (v := 3) hx hb dL_law_896 (by decide) ?_
  refine lv_iadd hx hb dL_law_897 ?_
  refine va_sld hx hb hX hbl hbA hI.2.2 (hin 3 (by decide) (by decide)) dL_law_898 ?_
  refine s_afI hI (s_runVL (rest := [.int v]) (As := [.int (xs (i + 1).toNatClampNeg), .int (xs (i + 2).toNatClampNeg), .int (xs (i + 3).toNatClampNeg)]) (np := 3) E hK hI (s_B hclA hBs hI) hclA.2 (mE hER eM_0) rfl (c_X12_cell l D KM shR ad1 cy _ B (hclA.mono (s_inA hI)) hER G' L' O' (xs (i + 1).toNatClampNeg) (xs (i + 2).toNatClampNeg) (xs (i + 3).toNatClampNeg) f2) kyX12_cell u6_127 u6_128 u6_129 (by decide) rfl hl.1 rfl (Nat.le_of_ble_eq_true rfl) ⟨by omega, by omega⟩ dL_law_899) (fun H locs hI => ?_)
  replace hI := IS_swap hI
  refine lv_icmp_eq (tgt := 1056) hx hb dL_law_902 (by decide) (fun _ => ?_) (fun c => absurd rfl c)
  refine W.widen (by omega) (by omega) (kk ad2 K S z t G1 L O G1' _ _ rfl hI hCI hR1)
theorem law_22 (E : Cx p s m #[Value.ref b] meth c RL cL_law 4 (some .boolean)) (hK : KS D cy s) (hclA : Bcl (AL s) B) (hBs : B s) (hSBA : ∀ U, B U → SB adK adV (AL s) U) (hCa : ∀ U, B U → CaS U) (hER : ∀ q ∈ shM, q.1 ∈ KM ∧ shR q.1 = q.2) (hX : va_X b n xs s s.heap) (hbl : b < s.heap.size) (hin : ∀ k : Int32, 0 ≤ k → k ≤ 5 → vp_in (i + k) n) (hz : ∀ z t G L O S G', RR z t G L O S G' → z ≤ 10) (hA : Ag_copy RR) {ls : Array Slot} {H : Heap} {locs : List Loc} {cells slots z t : Nat} {K : List Nat} {ad2 : Nat → Nat} {S : Nat → Nat} {G G' : Mem} {L : MemL} {O : MemO} (hl : lv_has ls 4 [(0, .ref b), (1, .ref (ad2 100)), (2, .ref (ad1 0)), (3, .int i)]) (hI : IS D K (shN S) ad2 cy (wS KM shR ad1 cy G' L' O' ++ []) (AL s) s.heap H locs G L O) (hCI : CI K S O z t) (hR : RR z t G L O S G') (hcc : cells + 10 ≤ 600000) (hss : slots + 198 ≤ 7302250)
    (kk : ∀ (ad3 : Nat → Nat) (K1 : List Nat) (S1 : Nat → Nat) (z1 t1 : Nat) (G1 : Mem) (L1 : MemL) (O1 : MemO) (G1' : Mem) (H : Heap) (locs : List Loc), ad3 100 = ad2 100 → IS D K1 (shN S1) ad3 cy (wS KM shR ad1 cy G1' L' O' ++ []) (AL s) s.heap H locs G1 L1 O1 → CI K1 S1 O1 z1 t1 → RR z1 t1 G1 L1 O1 S1 G1' → W p l e room_1 s m #[Value.ref b] below meth c H locs (cells + 10) (slots + 198) Q (F0 m 1056 ls [])) : W p l e room_1 s m #[Value.ref b] below meth c H locs cells slots Q (F0 m 907 ls []) := by
  obtain ⟨hx, hb, -, hml, hown, hu, -⟩ := id E
  have hbA : ¬ AL s b := fun q => Nat.lt_irrefl _ (Nat.lt_of_lt_of_le hbl q)
  refine lv_aload_n hx hb dL_law_907 rfl (lv_at hl 1 rfl) ?_
  refine lv_aload_n hx hb dL_law_908 rfl (lv_at hl 0 rfl) ?_
  refine lv_iload_n hx hb dL_law_909 rfl (lv_at hl 3 rfl) ?_
  refine lv_iconst (v := 1) hx hb dL_law_910 (by decide) ?_
  refine lv_iadd hx hb dL_law_911 ?_
  refine va_sld hx hb hX hbl hbA hI.2.2 (hin 1 (by decide) (by decide)) dL_law_912 ?_
  refine lv_aload_n hx hb dL_law_913 rfl (lv_at hl 0 rfl) ?_
  refine lv_iload_n hx hb dL_law_914 rfl (lv_at hl 3 rfl) ?_
  refine lv_iconst (v := 2) hx hb dL_law_915 (by decide) ?_
  refine lv_iadd hx hb dL_law_916 ?_
  refine va_sld hx hb hX hbl hbA hI.2.2 (hin 2 (by decide) (by decide)) dL_law_917 ?_
  refine lv_aload_n hx hb dL_law_918 rfl (lv_at hl 0 rfl) ?_
  refine lv_iload_n hx hb dL_law_919 rfl (lv_at hl 3 rfl) ?_
  refine lv_iconst (v := 3) hx hb dL_law_920 (by decide) ?_
  refine lv_iadd hx hb dL_law_921 ?_
  refine va_sld hx hb hX hbl hbA hI.2.2 (hin 3 (by decide) (by decide)) dL_law_922 ?_
  refine lv_aload_n hx hb dL_law_923 rfl (lv_at hl 0 rfl) ?_
  refine lv_iload_n hx hb dL_law_924 rfl (lv_at hl 3 rfl) ?_
  refine lv_iconst (v := 4) hx hb dL_law_925 (by decide) ?_
  refine lv_iadd hx hb dL_law_926 ?_
  refine va_sld hx hb hX hbl hbA hI.2.2 (hin 4 (by decide) (by decide)) dL_law_927 ?_
  refine lv_aload_n hx hb dL_law_928 rfl (lv_at hl 0 rfl) ?_
  refine lv_iload_n hx hb dL_law_929 rfl (lv_at hl 3 rfl) ?_
  refine lv_iconst (v := 5) hx hb dL_law_930 (by decide) ?_
  refine lv_iadd hx hb dL_law_931 ?_
  refine va_sld hx hb hX hbl hbA hI.2.2 (hin 5 (by decide) (by decide)) dL_law_932 ?_
  have hAx := hA z t G L O S G' (xs (i + 1).toNatClampNeg) (xs (i + 2).toNatClampNeg) (xs (i + 3).toNatClampNeg) (xs (i + 4).toNatClampNeg) (xs (i + 5).toNatClampNeg) hR
  obtain ⟨G1, G1', v, f1, f2, hR1⟩ := hAx
  refine s_afI hI (s_runVL (rest := []) (As := [.int (xs (i + 1).toNatClampNeg), .int (xs (i + 2).toNatClampNeg), .int (xs (i + 3).toNatClampNeg), .int (xs (i + 4).toNatClampNeg), .int (xs (i + 5).toNatClampNeg)]) (np := 5) E hK hI (s_B hclA hBs hI) hclA.2 (mE hCI.1.1 eC_100) rfl (c_X11_copy l D K (shN S) ad2 cy _ B (hclA.mono (s_inA hI)) S hCI.1 G L O (xs (i + 1).toNatClampNeg) (xs (i + 2).toNatClampNeg) (xs (i + 3).toNatClampNeg) (xs (i + 4).toNatClampNeg) (xs (i + 5).toNatClampNeg) f1) kyX11_copy u4_140 u4_141 u4_142 (by decide) rfl hl.1 rfl (Nat.le_of_ble_eq_true rfl) ⟨by omega, by omega⟩ dL_law_933) (fun H locs hI => ?_)
  replace hI := IS_swap hI
  refine lv_aload_n hx hb dL_law_936 rfl (lv_at hl 2 rfl) ?_
  refine lv_aload_n hx hb dL_law_937 rfl (lv_at hl 0 rfl) ?_
  refine lv_iload_n hx hb dL_law_938 rfl (lv_at hl 3 rfl) ?_
  refine lv_iconst (v := 1) hx hb dL_law_939 (by decide) ?_
  refine lv_iadd hx hb dL_law_940 ?_
  refine va_sld hx hb hX hbl hbA hI.2.2 (hin 1 (by decide) (by decide)) dL_law_941 ?_
  refine lv_aload_n hx hb dL_law_942 rfl (lv_at hl 0 rfl) ?_
  refine lv_iload_n hx hb dL_law_943 rfl (lv_at hl 3 rfl) ?_
  refine lv_iconst (v := 2) hx hb dL_law_944 (by decide) ?_
  refine lv_iadd hx hb dL_law_945 ?_
  refine va_sld hx hb hX hbl hbA hI.2.2 (hin 2 (by decide) (by decide)) dL_law_946 ?_
  refine lv_aload_n hx hb dL_law_947 rfl (lv_at hl 0 rfl) ?_
  refine lv_iload_n hx hb dL_law_948 rfl (lv_at hl 3 rfl) ?_
  refine lv_iconst (v := 3) hx hb dL_law_949 (by decide) ?_
  refine lv_iadd hx hb dL_law_950 ?_
  refine va_sld hx hb hX hbl hbA hI.2.2 (hin 3 (by decide) (by decide)) dL_law_951 ?_
  refine lv_aload_n hx hb dL_law_952 rfl (lv_at hl 0 rfl) ?_
  refine lv_iload_n hx hb dL_law_953 rfl (lv_at hl 3 rfl) ?_
  refine lv_iconst (v := 4) hx hb dL_law_954 (by decide) ?_
  refine lv_iadd hx hb dL_law_955 ?_
  refine va_sld hx hb hX hbl hbA hI.2.2 (hin 4 (by decide) (by decide)) dL_law_956 ?_
  refine lv_aload_n hx hb dL_law_957 rfl (lv_at hl 0 rfl) ?_
  refine lv_iload_n hx hb dL_law_958 rfl (lv_at hl 3 rfl) ?_
  refine lv_iconst (v := 5) hx hb dL_law_959 (by decide) ?_
  refine lv_iadd hx hb dL_law_960 ?_
  refine va_sld hx hb hX hbl hbA hI.2.2 (hin 5 (by decide) (by decide)) dL_law_961 ?_
  refine s_afI hI (s_runVL (rest := [.int v]) (As := [.int (xs (i + 1).toNatClampNeg), .int (xs (i + 2).toNatClampNeg), .int (xs (i + 3).toNatClampNeg), .int (xs (i + 4).toNatClampNeg), .int (xs (i + 5).toNatClampNeg)]) (np := 5) E hK hI (s_B hclA hBs hI) hclA.2 (mE hER eM_0) rfl (c_X12_copy l D KM shR ad1 cy _ B (hclA.mono (s_inA hI)) hER G' L' O' (xs (i + 1).toNatClampNeg) (xs (i + 2).toNatClampNeg) (xs (i + 3).toNatClampNeg) (xs (i + 4).toNatClampNeg) (xs (i + 5).toNatClampNeg) f2) kyX12_copy u6_131 u6_132 u6_133 (by decide) rfl hl.1 rfl (Nat.le_of_ble_eq_true rfl) ⟨by omega, by omega⟩ dL_law_962) (fun H locs hI => ?_)
  replace hI := IS_swap hI
  refine lv_icmp_eq (tgt := 1056) hx hb dL_law_965 (by decide) (fun _ => ?_) (fun c => absurd rfl c)
  refine W.widen (by omega) (by omega) (kk ad2 K S z t G1 L O G1' _ _ rfl hI hCI hR1)
theorem law_23 (E : Cx p s m #[Value.ref b] meth c RL cL_law 4 (some .boolean)) (hK : KS D cy s) (hclA : Bcl (AL s) B) (hBs : B s) (hSBA : ∀ U, B U → SB adK adV (AL s) U) (hCa : ∀ U, B U → CaS U) (hER : ∀ q ∈ shM, q.1 ∈ KM ∧ shR q.1 = q.2) (hX : va_X b n xs s s.heap) (hbl : b < s.heap.size) (hin : ∀ k : Int32, 0 ≤ k → k ≤ 5 → vp_in (i + k) n) (hz : ∀ z t G L O S G', RR z t G L O S G' → z ≤ 10) (hA : Ag_singers RR) {ls : Array Slot} {H : Heap} {locs : List Loc} {cells slots z t : Nat} {K : List Nat} {ad2 : Nat → Nat} {S : Nat → Nat} {G G' : Mem} {L : MemL} {O : MemO} (hl : lv_has ls 4 [(0, .ref b), (1, .ref (ad2 100)), (2, .ref (ad1 0)), (3, .int i)]) (hI : IS D K (shN S) ad2 cy (wS KM shR ad1 cy G' L' O' ++ []) (AL s) s.heap H locs G L O) (hCI : CI K S O z t) (hR : RR z t G L O S G') (hcc : cells + 10 ≤ 600000) (hss : slots + 198 ≤ 7302250)
    (kk : ∀ (ad3 : Nat → Nat) (K1 : List Nat) (S1 : Nat → Nat) (z1 t1 : Nat) (G1 : Mem) (L1 : MemL) (O1 : MemO) (G1' : Mem) (H : Heap) (locs : List Loc), ad3 100 = ad2 100 → IS D K1 (shN S1) ad3 cy (wS KM shR ad1 cy G1' L' O' ++ []) (AL s) s.heap H locs G1 L1 O1 → CI K1 S1 O1 z1 t1 → RR z1 t1 G1 L1 O1 S1 G1' → W p l e room_1 s m #[Value.ref b] below meth c H locs (cells + 10) (slots + 198) Q (F0 m 1056 ls [])) : W p l e room_1 s m #[Value.ref b] below meth c H locs cells slots Q (F0 m 970 ls []) := by
  obtain ⟨hx, hb, -, hml, hown, hu, -⟩ := id E
  have hbA : ¬ AL s b := fun q => Nat.lt_irrefl _ (Nat.lt_of_lt_of_le hbl q)
  refine lv_aload_n hx hb dL_law_970 rfl (lv_at hl 1 rfl) ?_
  refine lv_aload_n hx hb dL_law_971 rfl (lv_at hl 0 rfl) ?_
  refine lv_iload_n hx hb dL_law_972 rfl (lv_at hl 3 rfl) ?_
  refine lv_iconst (v := 1) hx hb dL_law_973 (by decide) ?_
  refine lv_iadd hx hb dL_law_974 ?_
  refine va_sld hx hb hX hbl hbA hI.2.2 (hin 1 (by decide) (by decide)) dL_law_975 ?_
  refine lv_aload_n hx hb dL_law_976 rfl (lv_at hl 0 rfl) ?_
  refine lv_iload_n hx hb dL_law_977 rfl (lv_at hl 3 rfl) ?_
  refine lv_iconst (v := 2) hx hb dL_law_978 (by decide) ?_
  refine lv_iadd hx hb dL_law_979 ?_
  refine va_sld hx hb hX hbl hbA hI.2.2 (hin 2 (by decide) (by decide)) dL_law_980 ?_
  refine lv_aload_n hx hb dL_law_981 rfl (lv_at hl 0 rfl) ?_
  refine lv_iload_n hx hb dL_law_982 rfl (lv_at hl 3 rfl) ?_
  refine lv_iconst (v := 3) hx hb dL_law_983 (by decide) ?_
  refine lv_iadd hx hb dL_law_984 ?_
  refine va_sld hx hb hX hbl hbA hI.2.2 (hin 3 (by decide) (by decide)) dL_law_985 ?_
  refine lv_aload_n hx hb dL_law_986 rfl (lv_at hl 0 rfl) ?_
  refine lv_iload_n hx hb dL_law_987 rfl (lv_at hl 3 rfl) ?_
  refine lv_iconst (v := 4) hx hb dL_law_988 (by decide) ?_
  refine lv_iadd hx hb dL_law_989 ?_
  refine va_sld hx hb hX hbl hbA hI.2.2 (hin 4 (by decide) (by decide)) dL_law_990 ?_
  have hAx := hA K z t G L O S G' (xs (i + 1).toNatClampNeg) (xs (i + 2).toNatClampNeg) (xs (i + 3).toNatClampNeg) (xs (i + 4).toNatClampNeg) hCI hR
  obtain ⟨S1, G1, O1, N, z1, G1', v, f1, f2, hS1, hC1, hR1⟩ := hAx
  refine s_afZ (fun q h => h) hI (s_runVzL (rest := []) (As := [.int (xs (i + 1).toNatClampNeg), .int (xs (i + 2).toNatClampNeg), .int (xs (i + 3).toNatClampNeg), .int (xs (i + 4).toNatClampNeg)]) (np := 4) E hK hI (s_B hclA hBs hI) hclA.2 (mE hCI.1.1 eC_100) rfl (c_X11_singers l D K (shN S) ad2 cy _ B H.size (hclA.mono (AZ_in hI (fun q h => h))) hCI.2.1 S G L O (xs (i + 1).toNatClampNeg) (xs (i + 2).toNatClampNeg) (xs (i + 3).toNatClampNeg) (xs (i + 4).toNatClampNeg) hCa z (fun e h1 h2 => CI_fr hCI h1 h2) shN_Sg hCI.1 hCI.2.2.1 f1) kyX11_singers u4_149 u4_150 u4_151 (by decide) rfl hl.1 rfl (Nat.le_of_ble_eq_true rfl) ⟨by omega, by omega⟩ dL_law_991) (fun ad3 sh3 H locs had hHy hI => ?_)
  rw [shSg_N hS1] at hHy
  subst hHy
  replace had := had 100 (mE hCI.1.1 eC_100).1
  replace hI := IS_swap hI
  refine lv_aload_n hx hb dL_law_994 rfl (lv_at hl 2 rfl) ?_
  refine lv_aload_n hx hb dL_law_995 rfl (lv_at hl 0 rfl) ?_
  refine lv_iload_n hx hb dL_law_996 rfl (lv_at hl 3 rfl) ?_
  refine lv_iconst (v := 1) hx hb dL_law_997 (by decide) ?_
  refine lv_iadd hx hb dL_law_998 ?_
  refine va_sld hx hb hX hbl hbA hI.2.2 (hin 1 (by decide) (by decide)) dL_law_999 ?_
  refine lv_aload_n hx hb dL_law_1000 rfl (lv_at hl 0 rfl) ?_
  refine lv_iload_n hx hb dL_law_1001 rfl (lv_at hl 3 rfl) ?_
  refine lv_iconst (v := 2) hx hb dL_law_1002 (by decide) ?_
  refine lv_iadd hx hb dL_law_1003 ?_
  refine va_sld hx hb hX hbl hbA hI.2.2 (hin 2 (by decide) (by decide)) dL_law_1004 ?_
  refine lv_aload_n hx hb dL_law_1005 rfl (lv_at hl 0 rfl) ?_
  refine lv_iload_n hx hb dL_law_1006 rfl (lv_at hl 3 rfl) ?_
  refine lv_iconst (v := 3) hx hb dL_law_1007 (by decide) ?_
  refine lv_iadd hx hb dL_law_1008 ?_
  refine va_sld hx hb hX hbl hbA hI.2.2 (hin 3 (by decide) (by decide)) dL_law_1009 ?_
  refine lv_aload_n hx hb dL_law_1010 rfl (lv_at hl 0 rfl) ?_
  refine lv_iload_n hx hb dL_law_1011 rfl (lv_at hl 3 rfl) ?_
  refine lv_iconst (v := 4) hx hb dL_law_1012 (by decide) ?_
  refine lv_iadd hx hb dL_law_1013 ?_
  refine va_sld hx hb hX hbl hbA hI.2.2 (hin 4 (by decide) (by decide)) dL_law_1014 ?_
  refine s_afI hI (s_runVL (rest := [.int v]) (As := [.int (xs (i + 1).toNatClampNeg), .int (xs (i + 2).toNatClampNeg), .int (xs (i + 3).toNatClampNeg), .int (xs (i + 4).toNatClampNeg)]) (np := 4) E hK hI (s_B hclA hBs hI) hclA.2 (mE hER eM_0) rfl (c_X12_singers l D KM shR ad1 cy _ B (hclA.mono (s_inA hI)) hER G' L' O' (xs (i + 1).toNatClampNeg) (xs (i + 2).toNatClampNeg) (xs (i + 3).toNatClampNeg) (xs (i + 4).toNatClampNeg) f2) kyX12_singers u6_135 u6_136 u6_137 (by decide) rfl hl.1 rfl (Nat.le_of_ble_eq_true rfl) ⟨by omega, by omega⟩ dL_law_1015) (fun H locs hI => ?_)
  replace hI := IS_swap hI
  refine lv_icmp_eq (tgt := 1056) hx hb dL_law_1018 (by decide) (fun _ => ?_) (fun c => absurd rfl c)
  refine W.widen (by omega) (by omega) (kk ad3 _ S1 z1 t G1 L O1 G1' _ _ had hI hC1 hR1)
theorem law_24 (E : Cx p s m #[Value.ref b] meth c RL cL_law 4 (some .boolean)) (hK : KS D cy s) (hclA : Bcl (AL s) B) (hBs : B s) (hSBA : ∀ U, B U → SB adK adV (AL s) U) (hCa : ∀ U, B U → CaS U) (hER : ∀ q ∈ shM, q.1 ∈ KM ∧ shR q.1 = q.2) (hX : va_X b n xs s s.heap) (hbl : b < s.heap.size) (hin : ∀ k : Int32, 0 ≤ k → k ≤ 5 → vp_in (i + k) n) (hz : ∀ z t G L O S G', RR z t G L O S G' → z ≤ 10) (hA : Ag_taken RR) {ls : Array Slot} {H : Heap} {locs : List Loc} {cells slots z t : Nat} {K : List Nat} {ad2 : Nat → Nat} {S : Nat → Nat} {G G' : Mem} {L : MemL} {O : MemO} (hl : lv_has ls 4 [(0, .ref b), (1, .ref (ad2 100)), (2, .ref (ad1 0)), (3, .int i)]) (hI : IS D K (shN S) ad2 cy (wS KM shR ad1 cy G' L' O' ++ []) (AL s) s.heap H locs G L O) (hCI : CI K S O z t) (hR : RR z t G L O S G') (hcc : cells + 10 ≤ 600000) (hss : slots + 198 ≤ 7302250)
    (kk : ∀ (ad3 : Nat → Nat) (K1 : List Nat) (S1 : Nat → Nat) (z1 t1 : Nat) (G1 : Mem) (L1 : MemL) (O1 : MemO) (G1' : Mem) (H : Heap) (locs : List Loc), ad3 100 = ad2 100 → IS D K1 (shN S1) ad3 cy (wS KM shR ad1 cy G1' L' O' ++ []) (AL s) s.heap H locs G1 L1 O1 → CI K1 S1 O1 z1 t1 → RR z1 t1 G1 L1 O1 S1 G1' → W p l e room_1 s m #[Value.ref b] below meth c H locs (cells + 10) (slots + 198) Q (F0 m 1056 ls [])) : W p l e room_1 s m #[Value.ref b] below meth c H locs cells slots Q (F0 m 1023 ls []) := by
  obtain ⟨hx, hb, -, hml, hown, hu, -⟩ := id E
  have hbA : ¬ AL s b := fun q => Nat.lt_irrefl _ (Nat.lt_of_lt_of_le hbl q)
  refine lv_aload_n hx hb dL_law_1023 rfl (lv_at hl 1 rfl) ?_
  refine lv_aload_n hx hb dL_law_1024 rfl (lv_at hl 0 rfl) ?_
  refine lv_iload_n hx hb dL_law_1025 rfl (lv_at hl 3 rfl) ?_
  refine lv_iconst (v := 1) hx hb dL_law_1026 (by decide) ?_
  refine lv_iadd hx hb dL_law_1027 ?_
  refine va_sld hx hb hX hbl hbA hI.2.2 (hin 1 (by decide) (by decide)) dL_law_1028 ?_
  refine lv_aload_n hx hb dL_law_1029 rfl (lv_at hl 0 rfl) ?_
  refine lv_iload_n hx hb dL_law_1030 rfl (lv_at hl 3 rfl) ?_
  refine lv_iconst (v := 2) hx hb dL_law_1031 (by decide) ?_
  refine lv_iadd hx hb dL_law_1032 ?_
  refine va_sld hx hb hX hbl hbA hI.2.2 (hin 2 (by decide) (by decide)) dL_law_1033 ?_
  have hAx := hA z t G L O S G' (xs (i + 1).toNatClampNeg) (xs (i + 2).toNatClampNeg) hR
  obtain ⟨v, f1, f2, hR1⟩ := hAx
  refine s_afI hI (s_runVL (rest := []) (As := [.int (xs (i + 1).toNatClampNeg), .int (xs (i + 2).toNatClampNeg)]) (np := 2) E hK hI (s_B hclA hBs hI) hclA.2 (mE hCI.1.1 eC_100) rfl (c_X11_taken l D K (shN S) ad2 cy _ B (hclA.mono (s_inA hI)) S hCI.1 G L O (xs (i + 1).toNatClampNeg) (xs (i + 2).toNatClampNeg) f1) kyX11_taken u4_154 u4_155 u4_156 (by decide) rfl hl.1 rfl (Nat.le_of_ble_eq_true rfl) ⟨by omega, by omega⟩ dL_law_1034) (fun H locs hI => ?_)
  replace hI := IS_swap hI
  refine lv_aload_n hx hb dL_law_1037 rfl (lv_at hl 2 rfl) ?_
  refine lv_aload_n hx hb dL_law_1038 rfl (lv_at hl 0 rfl) ?_
  refine lv_iload_n hx hb dL_law_1039 rfl (lv_at hl 3 rfl) ?_
  refine lv_iconst (v := 1) hx hb dL_law_1040 (by decide) ?_
  refine lv_iadd hx hb dL_law_1041 ?_
  refine va_sld hx hb hX hbl hbA hI.2.2 (hin 1 (by decide) (by decide)) dL_law_1042 ?_
  refine lv_aload_n hx hb dL_law_1043 rfl (lv_at hl 0 rfl) ?_
  refine lv_iload_n hx hb dL_law_1044 rfl (lv_at hl 3 rfl) ?_
  refine lv_iconst (v := 2) hx hb dL_law_1045 (by decide) ?_
  refine lv_iadd hx hb dL_law_1046 ?_
  refine va_sld hx hb hX hbl hbA hI.2.2 (hin 2 (by decide) (by decide)) dL_law_1047 ?_
  refine s_afI hI (s_runVL (rest := [.int v]) (As := [.int (xs (i + 1).toNatClampNeg), .int (xs (i + 2).toNatClampNeg)]) (np := 2) E hK hI (s_B hclA hBs hI) hclA.2 (mE hER eM_0) rfl (c_X12_taken l D KM shR ad1 cy _ B (hclA.mono (s_inA hI)) hER G' L' O' (xs (i + 1).toNatClampNeg) (xs (i + 2).toNatClampNeg) f2) kyX12_taken u6_141 u6_142 u6_143 (by decide) rfl hl.1 rfl (Nat.le_of_ble_eq_true rfl) ⟨by omega, by omega⟩ dL_law_1048) (fun H locs hI => ?_)
  replace hI := IS_swap hI
  refine lv_icmp_eq (tgt := 1056) hx hb dL_law_1051 (by decide) (fun _ => ?_) (fun c => absurd rfl c)
  refine W.widen (by omega) (by omega) (kk ad2 K S z t G L O G' _ _ rfl hI hCI hR1)
end LW
