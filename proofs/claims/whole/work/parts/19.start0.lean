-- the start: what the Statement gives, in the layer's words
def BL (adK adV : Nat → Nat) (A : Nat → Prop) (U : State) : Prop := SB adK adV A U ∧ CaS U ∧ va_AO RX7 U ∧ va_AO RX9 U ∧ va_AO RX6 U
theorem BL_cl {adK adV : Nat → Nat} {A : Nat → Prop} : Bcl A (BL adK adV A) := by
  refine ⟨fun s U hW hz hk h => ?_, fun U g mk a h => ?_⟩
  · exact ⟨SB_cl.1 s U hW hz hk h.1, fun C hC => va_Nw.warmC hW (h.2.1 C hC), h.2.2.1.moved hW.alike, h.2.2.2.1.moved hW.alike, h.2.2.2.2.moved hW.alike⟩
  · exact ⟨SB_cl.2 U g mk a h.1, fun C hC => va_Nw.same rfl (u := U) (U := U.calling g mk a) rfl (h.2.1 C hC), h.2.2.1.moved (u := U) (U := U.calling g mk a) (Vm.Alike.refl U.vm), h.2.2.2.1.moved (u := U) (U := U.calling g mk a) (Vm.Alike.refl U.vm), h.2.2.2.2.moved (u := U) (U := U.calling g mk a) (Vm.Alike.refl U.vm)⟩
theorem arr_at {s : State} {cA comp : ClassId} {k : Class} {ty : FieldType} (h2 : s.vm.classes[cA]? = some k) (h3 : k.kind = .array comp ty) : ArrOfT s cA ty := fun n z => ⟨(fun _ => by simp [arrV]), ⟨k, h2, comp, h3⟩⟩
theorem arr_prim {s : State} {args : Array Value} {ty : FieldType} (h : (Cond.arrayClass ty).before args s = true) : ∃ cA, ArrOfT s cA ty ∧ s.vm.findClass ("[" ++ ty.toString) = some cA := by
  obtain ⟨cA, k, comp, h1, h2, h3⟩ := Cond.arrayClass_spec h
  exact ⟨cA, arr_at h2 h3, h1⟩
theorem arr_obj {s : State} {args : Array Value} {C : String} (h : (Cond.arrayOver (.object C)).before args s = true) : ∃ cA, ArrOfT s cA (.object C) ∧ va_RA s cA (.object C) := by
  obtain ⟨comp, c, k, h1, h2, h3, h4, h5⟩ := Cond.arrayOver_spec h
  exact ⟨c, arr_at h3 h4, k, comp, h3, h4, h1, h5⟩
def tyl : List FieldType := [.int, .byte, .boolean, .char, .long, .object RX7, .object RX9, .object RX6]
theorem st_cy {s : State} {b : Nat} (hts : ∀ w ∈ lw_tbl, w.before #[Value.ref b] s = true) : ∃ cy : Nat → ClassId, ∀ (k : Nat) (q : ClassId × FieldType), (tysS cy)[k]? = some q → ArrOfT s q.1 q.2 ∧ va_RA s q.1 q.2 := by
  obtain ⟨c1, a1, b1⟩ := arr_prim (hts _ (uu_tbl _ u1_80))
  obtain ⟨c2, a2, b2⟩ := arr_prim (hts _ (uu_tbl _ u2_166))
  obtain ⟨c3, a3, b3⟩ := arr_prim (hts _ (uu_tbl _ u5_123))
  obtain ⟨c4, a4, b4⟩ := arr_prim (hts _ (uu_tbl _ u1_116))
  obtain ⟨c5, a5, b5⟩ := arr_prim (hts _ (uu_tbl _ u1_179))
  obtain ⟨c6, a6, b6⟩ := arr_obj (hts _ v1_82)
  obtain ⟨c7, a7, b7⟩ := arr_obj (hts _ v1_118)
  obtain ⟨c8, a8, b8⟩ := arr_obj (hts _ v1_120)
  refine ⟨fun t => match t with | 1 => c1 | 2 => c2 | 3 => c3 | 4 => c4 | 5 => c5 | 6 => c6 | 7 => c7 | _ => c8, fun k q hq => ?_⟩
  match k, hq with
  | 0, hq => cases hq; exact ⟨a1, b1⟩
  | 1, hq => cases hq; exact ⟨a2, b2⟩
  | 2, hq => cases hq; exact ⟨a3, b3⟩
  | 3, hq => cases hq; exact ⟨a4, b4⟩
  | 4, hq => cases hq; exact ⟨a5, b5⟩
  | 5, hq => cases hq; exact ⟨a6, b6⟩
  | 6, hq => cases hq; exact ⟨a7, b7⟩
  | 7, hq => cases hq; exact ⟨a8, b8⟩
  | k + 8, hq => cases hq
theorem st_D {s : State} {b : Nat} (hts : ∀ w ∈ lw_tbl, w.before #[Value.ref b] s = true) : ∃ D : va_G, ∀ (c : Nat) (q : vw_C), vwCl[c]? = some q → u_Kn s q.1 q.2.1 q.2.2 (D.1 c) (D.2 c) := by
  have hu : ∀ w ∈ UU, w.before #[Value.ref b] s = true := fun w hw => hts w (uu_tbl w hw)
  obtain ⟨c0, i0, h0⟩ := u_known (C := RX0) (T := TX0) (N := 3) hu inU0 (hts _ (uu_tbl _ u3_45))
  obtain ⟨c1, i1, h1⟩ := u_known (C := RX1) (T := TX1) (N := 16) hu inU1 (hts _ (uu_tbl _ u1_122))
  obtain ⟨c2, i2, h2⟩ := u_known (C := RX2) (T := TX2) (N := 3) hu inU2 (hts _ (uu_tbl _ u3_35))
  obtain ⟨c3, i3, h3⟩ := u_known (C := RX3) (T := TX3) (N := 3) hu inU3 (hts _ (uu_tbl _ u3_25))
  obtain ⟨c4, i4, h4⟩ := u_known (C := RX4) (T := TX4) (N := 8) hu inU4 (hts _ (uu_tbl _ u1_32))
  obtain ⟨c5, i5, h5⟩ := u_known (C := RX5) (T := TX5) (N := 8) hu inU5 (hts _ (uu_tbl _ u1_84))
  obtain ⟨c6, i6, h6⟩ := u_known (C := RX6) (T := TX6) (N := 3) hu inU6 (hts _ (uu_tbl _ u1_180))
  obtain ⟨c7, i7, h7⟩ := u_known (C := RX7) (T := TX7) (N := 3) hu inU7 (hts _ (uu_tbl _ u3_54))
  obtain ⟨c8, i8, h8⟩ := u_known (C := RX8) (T := TX8) (N := 3) hu inU8 (hts _ (uu_tbl _ u2_230))
  obtain ⟨c9, i9, h9⟩ := u_known (C := RX9) (T := TX9) (N := 3) hu inU9 (hts _ (uu_tbl _ u2_137))
  obtain ⟨c10, i10, h10⟩ := u_known (C := RX10) (T := TX10) (N := 3) hu inU10 (hts _ (uu_tbl _ u3_15))
  obtain ⟨c11, i11, h11⟩ := u_known (C := RX11) (T := TX11) (N := 12) hu inU11 (hts _ (uu_tbl _ u1_24))
  obtain ⟨c12, i12, h12⟩ := u_known (C := RX12) (T := TX12) (N := 58) hu inU12 (hts _ (uu_tbl _ u4_184))
  refine ⟨(fun c => match c with | 0 => c0 | 1 => c1 | 2 => c2 | 3 => c3 | 4 => c4 | 5 => c5 | 6 => c6 | 7 => c7 | 8 => c8 | 9 => c9 | 10 => c10 | 11 => c11 | _ => c12, fun c => match c with | 0 => i0 | 1 => i1 | 2 => i2 | 3 => i3 | 4 => i4 | 5 => i5 | 6 => i6 | 7 => i7 | 8 => i8 | 9 => i9 | 10 => i10 | 11 => i11 | _ => i12), fun c q hq => ?_⟩
  match c, hq with
  | 0, hq => cases hq; exact h0
  | 1, hq => cases hq; exact h1
  | 2, hq => cases hq; exact h2
  | 3, hq => cases hq; exact h3
  | 4, hq => cases hq; exact h4
  | 5, hq => cases hq; exact h5
  | 6, hq => cases hq; exact h6
  | 7, hq => cases hq; exact h7
  | 8, hq => cases hq; exact h8
  | 9, hq => cases hq; exact h9
  | 10, hq => cases hq; exact h10
  | 11, hq => cases hq; exact h11
  | 12, hq => cases hq; exact h12
  | k + 13, hq => cases hq
theorem st_nF {s : State} {b : Nat} (hts : ∀ w ∈ lw_tbl, w.before #[Value.ref b] s = true) : ∀ q ∈ nestF, va_Nw (.fieldLinkNest q.1 q.2.1 q.2.2.1 q.2.2.2.1 q.2.2.2.2.1 q.2.2.2.2.2) s := by
  intro q hq
  simp only [nestF, List.mem_cons, List.not_mem_nil, or_false] at hq
  rcases hq with rfl | rfl | rfl | rfl | rfl
  · exact va_Nw.of rfl (hts _ v1_92)
  · exact va_Nw.of rfl (hts _ v1_94)
  · exact va_Nw.of rfl (hts _ v1_133)
  · exact va_Nw.of rfl (hts _ v1_135)
  · exact va_Nw.of rfl (hts _ v1_143)
theorem st_nM {s : State} {b : Nat} (hts : ∀ w ∈ lw_tbl, w.before #[Value.ref b] s = true) : ∀ q ∈ nestM, va_Nw (.methodLinkNest q.1 q.2.1 q.2.2.1 q.2.2.2) s := by
  intro q hq
  simp only [nestM, List.mem_cons, List.not_mem_nil, or_false] at hq
  rcases hq with rfl | rfl | rfl | rfl | rfl | rfl | rfl | rfl | rfl
  · exact va_Nw.of rfl (hts _ v1_85)
  · exact va_Nw.of rfl (hts _ v1_181)
  · exact va_Nw.of rfl (hts _ v3_137)
  · exact va_Nw.of rfl (hts _ v3_209)
  · exact va_Nw.of rfl (hts _ v3_223)
  · exact va_Nw.of rfl (hts _ v4_0)
  · exact va_Nw.of rfl (hts _ v4_9)
  · exact va_Nw.of rfl (hts _ v4_10)
  · exact va_Nw.of rfl (hts _ v4_66)
theorem tb6' {w : Cond} (h : w ∈ tables_1_6) : w ∈ lw_tbl := List.mem_append_right _ (by unfold tables_1; simp only [List.mem_append]; first | exact Or.inr (Or.inr (Or.inr (Or.inr (Or.inr h)))) | (simp [h]))
theorem st_Ca {s : State} {b : Nat} (hts : ∀ w ∈ lw_tbl, w.before #[Value.ref b] s = true) : CaS s := by
  intro C hC
  simp only [List.mem_cons, List.not_mem_nil, or_false] at hC
  rcases hC with rfl | rfl | rfl | rfl | rfl
  · exact va_Nw.of rfl (hts (.castable RX0 RX7) (tb6' (List.mem_of_getElem? (i := 157) (by rfl))))
  · exact va_Nw.of rfl (hts (.castable RX2 RX7) (tb6' (List.mem_of_getElem? (i := 156) (by rfl))))
  · exact va_Nw.of rfl (hts (.castable RX3 RX7) (tb6' (List.mem_of_getElem? (i := 155) (by rfl))))
  · exact va_Nw.of rfl (hts (.castable RX8 RX7) (tb6' (List.mem_of_getElem? (i := 153) (by rfl))))
  · exact va_Nw.of rfl (hts (.castable RX10 RX7) (tb6' (List.mem_of_getElem? (i := 154) (by rfl))))
def tmJ : Nat → Term
  | 0 => .string RX11 71
  | 1 => .string RX5 99
  | _ => .string RX5 107
theorem st_SB {s : State} {b : Nat} (hts : ∀ w ∈ lw_tbl, w.before #[Value.ref b] s = true) (hg : (Jvm.Cond.and given_1 narrow_1).before #[Value.ref b] s = true) : ∃ adK adV : Nat → Nat, SB adK adV (AL s) s := by
  have hs := flat_of_before _ hg
  have hA : ∀ a : Nat, a < s.heap.size → ¬ AL s a := fun a h q => Nat.lt_irrefl _ (Nat.lt_of_lt_of_le h q)
  have i3 : ∀ {P : Nat → Prop}, P 0 → P 1 → P 2 → ∀ i, i < 3 → P i := by
    intro P h0 h1 h2 i hi
    rcases (show i = 0 ∨ i = 1 ∨ i = 2 by omega) with rfl | rfl | rfl
    · exact h0
    · exact h1
    · exact h2
  have nz : ∀ (i : Nat) (w : Cond), (flatC (Jvm.Cond.and given_1 narrow_1))[i]? = some w → w.before #[Value.ref b] s = true := fun i w h => hs w (List.mem_of_getElem? h)
  have hel0 : ∀ j : Nat, j < lenJS.getD 0 0 → (Cond.eq (.elem (.field (tmJ 0) "java/lang/String" "value" "[B") (.int (Int32.ofNat j))) (.int ((bytJS.getD 0 []).getD j 0))).before #[Value.ref b] s = true := by
    intro j hj
    match j, hj with
    | 0, _ => exact nz 47 _ (by rfl)
    | 1, _ => exact nz 48 _ (by rfl)
    | 2, _ => exact nz 49 _ (by rfl)
    | 3, _ => exact nz 50 _ (by rfl)
    | 4, _ => exact nz 51 _ (by rfl)
    | 5, _ => exact nz 52 _ (by rfl)
    | 6, _ => exact nz 53 _ (by rfl)
    | 7, _ => exact nz 54 _ (by rfl)
    | 8, _ => exact nz 55 _ (by rfl)
    | 9, _ => exact nz 56 _ (by rfl)
    | 10, _ => exact nz 57 _ (by rfl)
    | 11, _ => exact nz 58 _ (by rfl)
    | 12, _ => exact nz 59 _ (by rfl)
    | 13, _ => exact nz 60 _ (by rfl)
    | 14, _ => exact nz 61 _ (by rfl)
    | 15, _ => exact nz 62 _ (by rfl)
    | 16, _ => exact nz 63 _ (by rfl)
    | 17, _ => exact nz 64 _ (by rfl)
    | 18, _ => exact nz 65 _ (by rfl)
    | 19, _ => exact nz 66 _ (by rfl)
    | 20, _ => exact nz 67 _ (by rfl)
    | 21, _ => exact nz 68 _ (by rfl)
    | 22, _ => exact nz 69 _ (by rfl)
    | 23, _ => exact nz 70 _ (by rfl)
    | 24, _ => exact nz 71 _ (by rfl)
    | 25, _ => exact nz 72 _ (by rfl)
    | 26, _ => exact nz 73 _ (by rfl)
    | 27, _ => exact nz 74 _ (by rfl)
    | 28, _ => exact nz 75 _ (by rfl)
    | 29, _ => exact nz 76 _ (by rfl)
    | 30, _ => exact nz 77 _ (by rfl)
    | 31, _ => exact nz 78 _ (by rfl)
    | n + 32, h => exact absurd h (by show ¬ (n + 32 < 32); omega)
  have hel1 : ∀ j : Nat, j < lenJS.getD 1 0 → (Cond.eq (.elem (.field (tmJ 1) "java/lang/String" "value" "[B") (.int (Int32.ofNat j))) (.int ((bytJS.getD 1 []).getD j 0))).before #[Value.ref b] s = true := by
    intro j hj
    match j, hj with
    | 0, _ => exact nz 83 _ (by rfl)
    | 1, _ => exact nz 84 _ (by rfl)
    | 2, _ => exact nz 85 _ (by rfl)
    | 3, _ => exact nz 86 _ (by rfl)
    | 4, _ => exact nz 87 _ (by rfl)
    | 5, _ => exact nz 88 _ (by rfl)
    | 6, _ => exact nz 89 _ (by rfl)
    | 7, _ => exact nz 90 _ (by rfl)
    | 8, _ => exact nz 91 _ (by rfl)
    | 9, _ => exact nz 92 _ (by rfl)
    | 10, _ => exact nz 93 _ (by rfl)
    | 11, _ => exact nz 94 _ (by rfl)
    | 12, _ => exact nz 95 _ (by rfl)
    | 13, _ => exact nz 96 _ (by rfl)
    | 14, _ => exact nz 97 _ (by rfl)
    | 15, _ => exact nz 98 _ (by rfl)
    | 16, _ => exact nz 99 _ (by rfl)
    | 17, _ => exact nz 100 _ (by rfl)
    | 18, _ => exact nz 101 _ (by rfl)
    | 19, _ => exact nz 102 _ (by rfl)
    | 20, _ => exact nz 103 _ (by rfl)
    | 21, _ => exact nz 104 _ (by rfl)
    | 22, _ => exact nz 105 _ (by rfl)
    | 23, _ => exact nz 106 _ (by rfl)
    | 24, _ => exact nz 107 _ (by rfl)
    | 25, _ => exact nz 108 _ (by rfl)
    | 26, _ => exact nz 109 _ (by rfl)
    | 27, _ => exact nz 110 _ (by rfl)
    | 28, _ => exact nz 111 _ (by rfl)
    | 29, _ => exact nz 112 _ (by rfl)
    | 30, _ => exact nz 113 _ (by rfl)
    | 31, _ => exact nz 114 _ (by rfl)
    | 32, _ => exact nz 115 _ (by rfl)
    | 33, _ => exact nz 116 _ (by rfl)
    | 34, _ => exact nz 117 _ (by rfl)
    | 35, _ => exact nz 118 _ (by rfl)
    | 36, _ => exact nz 119 _ (by rfl)
    | 37, _ => exact nz 120 _ (by rfl)
    | 38, _ => exact nz 121 _ (by rfl)
    | 39, _ => exact nz 122 _ (by rfl)
    | 40, _ => exact nz 123 _ (by rfl)
    | 41, _ => exact nz 124 _ (by rfl)
    | 42, _ => exact nz 125 _ (by rfl)
    | 43, _ => exact nz 126 _ (by rfl)
    | 44, _ => exact nz 127 _ (by rfl)
    | 45, _ => exact nz 128 _ (by rfl)
    | 46, _ => exact nz 129 _ (by rfl)
    | 47, _ => exact nz 130 _ (by rfl)
    | 48, _ => exact nz 131 _ (by rfl)
    | 49, _ => exact nz 132 _ (by rfl)
    | 50, _ => exact nz 133 _ (by rfl)
    | 51, _ => exact nz 134 _ (by rfl)
    | 52, _ => exact nz 135 _ (by rfl)
    | 53, _ => exact nz 136 _ (by rfl)
    | 54, _ => exact nz 137 _ (by rfl)
    | 55, _ => exact nz 138 _ (by rfl)
    | 56, _ => exact nz 139 _ (by rfl)
    | 57, _ => exact nz 140 _ (by rfl)
    | 58, _ => exact nz 141 _ (by rfl)
    | 59, _ => exact nz 142 _ (by rfl)
    | 60, _ => exact nz 143 _ (by rfl)
    | 61, _ => exact nz 144 _ (by rfl)
    | 62, _ => exact nz 145 _ (by rfl)
    | 63, _ => exact nz 146 _ (by rfl)
    | 64, _ => exact nz 147 _ (by rfl)
    | 65, _ => exact nz 148 _ (by rfl)
    | 66, _ => exact nz 149 _ (by rfl)
    | 67, _ => exact nz 150 _ (by rfl)
    | 68, _ => exact nz 151 _ (by rfl)
    | 69, _ => exact nz 152 _ (by rfl)
    | 70, _ => exact nz 153 _ (by rfl)
    | 71, _ => exact nz 154 _ (by rfl)
    | 72, _ => exact nz 155 _ (by rfl)
    | 73, _ => exact nz 156 _ (by rfl)
    | 74, _ => exact nz 157 _ (by rfl)
    | 75, _ => exact nz 158 _ (by rfl)
    | 76, _ => exact nz 159 _ (by rfl)
    | 77, _ => exact nz 160 _ (by rfl)
    | 78, _ => exact nz 161 _ (by rfl)
    | 79, _ => exact nz 162 _ (by rfl)
    | 80, _ => exact nz 163 _ (by rfl)
    | 81, _ => exact nz 164 _ (by rfl)
    | 82, _ => exact nz 165 _ (by rfl)
    | 83, _ => exact nz 166 _ (by rfl)
    | n + 84, h => exact absurd h (by show ¬ (n + 84 < 84); omega)
  have hel2 : ∀ j : Nat, j < lenJS.getD 2 0 → (Cond.eq (.elem (.field (tmJ 2) "java/lang/String" "value" "[B") (.int (Int32.ofNat j))) (.int ((bytJS.getD 2 []).getD j 0))).before #[Value.ref b] s = true := by
    intro j hj
    match j, hj with
    | 0, _ => exact nz 172 _ (by rfl)
    | 1, _ => exact nz 173 _ (by rfl)
    | 2, _ => exact nz 174 _ (by rfl)
    | 3, _ => exact nz 175 _ (by rfl)
    | 4, _ => exact nz 176 _ (by rfl)
    | 5, _ => exact nz 177 _ (by rfl)
    | 6, _ => exact nz 178 _ (by rfl)
    | 7, _ => exact nz 179 _ (by rfl)
    | n + 8, h => exact absurd h (by show ¬ (n + 8 < 8); omega)
  obtain ⟨adK, adV, h1, h2⟩ := vk_Sof (args := #[Value.ref b]) (s := s) (N := 3) (tm := tmJ) (len := lenJS) (byt := bytJS) (A := AL s) (by decide)
    (i3 (nz 43 (.exactly (tmJ 0) "java/lang/String") (by rfl)) (nz 79 (.exactly (tmJ 1) "java/lang/String") (by rfl)) (nz 168 (.exactly (tmJ 2) "java/lang/String") (by rfl)))
    (i3 (nz 44 (.eq (.field (tmJ 0) "java/lang/String" "coder" "B") (.int 0)) (by rfl)) (nz 80 (.eq (.field (tmJ 1) "java/lang/String" "coder" "B") (.int 0)) (by rfl)) (nz 169 (.eq (.field (tmJ 2) "java/lang/String" "coder" "B") (.int 0)) (by rfl)))
    (i3 (nz 45 (.arrayOf (.field (tmJ 0) "java/lang/String" "value" "[B") .byte) (by rfl)) (nz 81 (.arrayOf (.field (tmJ 1) "java/lang/String" "value" "[B") .byte) (by rfl)) (nz 170 (.arrayOf (.field (tmJ 2) "java/lang/String" "value" "[B") .byte) (by rfl)))
    (i3 (nz 46 (.eq (.length (.field (tmJ 0) "java/lang/String" "value" "[B")) (.int 32)) (by rfl)) (nz 82 (.eq (.length (.field (tmJ 1) "java/lang/String" "value" "[B")) (.int 84)) (by rfl)) (nz 171 (.eq (.length (.field (tmJ 2) "java/lang/String" "value" "[B")) (.int 8)) (by rfl)))
    (i3 hel0 hel1 hel2)
    (by
      intro i j hi hj hij
      have n01 := nz 167 (.not (.eq (tmJ 0) (tmJ 1))) (by rfl)
      have n02 := nz 180 (.not (.eq (tmJ 0) (tmJ 2))) (by rfl)
      have n12 := nz 181 (.not (.eq (tmJ 1) (tmJ 2))) (by rfl)
      rcases (show i = 0 ∨ i = 1 ∨ i = 2 by omega) with rfl | rfl | rfl <;> rcases (show j = 0 ∨ j = 1 ∨ j = 2 by omega) with rfl | rfl | rfl
      · exact absurd rfl hij
      · exact Or.inl n01
      · exact Or.inl n02
      · exact Or.inr n01
      · exact absurd rfl hij
      · exact Or.inl n12
      · exact Or.inr n02
      · exact Or.inr n12
      · exact absurd rfl hij) hA
  have z1 : va_Z RJ0 "COMPACT_STRINGS" "Z" (.int 1) (AL s) s s.heap := va_Zof (args := #[Value.ref b]) (hts (.laysStatic RJ0 "COMPACT_STRINGS" "Z") (List.mem_append_right _ (tb1 (List.mem_of_getElem? (i := 210) (by rfl))))) (hts _ (uu_tbl _ u1_7)) (va_eqt (nz 4 (.eq (.static RJ0 "COMPACT_STRINGS" "Z") (.int 1)) (by rfl))) hA
  have z2 : va_Zq RJ3 "SIOOBE_FORMATTER" "Ljava/util/function/BiFunction;" (AL s) s s.heap := va_Zqof (args := #[Value.ref b]) (hts (.laysStatic RJ3 "SIOOBE_FORMATTER" "Ljava/util/function/BiFunction;") (List.mem_append_right _ (tb1 (List.mem_of_getElem? (i := 226) (by rfl))))) (hts _ (uu_tbl _ u1_9)) (nz 5 (.isRef (.static RJ3 "SIOOBE_FORMATTER" "Ljava/util/function/BiFunction;")) (by rfl)) hA
  exact ⟨adK, adV, h1, vk_R.of (hts _ v1_200) (h2 0 (by decide)), vk_R.of (hts _ v2_29) (h2 1 (by decide)), vk_R.of (hts _ v2_42) (h2 2 (by decide)), z1, z2⟩
theorem st_env {s : State} {b : Nat} (hts : ∀ w ∈ lw_tbl, w.before #[Value.ref b] s = true) (hg : (Jvm.Cond.and given_1 narrow_1).before #[Value.ref b] s = true) : ∃ (D : va_G) (cy : Nat → ClassId) (adK adV : Nat → Nat), KS D cy s ∧ BL adK adV (AL s) s := by
  obtain ⟨D, hD⟩ := st_D hts
  obtain ⟨cy, hcy⟩ := st_cy hts
  obtain ⟨adK, adV, hS⟩ := st_SB hts hg
  exact ⟨D, cy, adK, adV, ⟨⟨hD, hcy⟩, st_nF hts, st_nM hts⟩, hS, st_Ca hts, va_AO.of (hts _ v1_82), va_AO.of (hts _ v1_118), va_AO.of (hts _ v1_120)⟩
