-- the three texts that the class has as constants
def lenJS : List Nat := [32, 84, 8]
def bytJS : List (List Int32) := [[109, 117, 115, 116, 32, 48, 32, 59, 32, 109, 97, 121, 32, 56, 32, 60, 32, 104, 101, 108, 100, 32, 59, 32, 116, 104, 105, 110, 32, 49, 32, 59], [109, 117, 115, 116, 32, 32, 32, 109, 97, 121, 32, 32, 32, 32, 116, 104, 105, 110, 32, 32, 32, 111, 114, 32, 32, 32, 32, 32, 97, 110, 100, 32, 32, 32, 32, 110, 111, 116, 32, 32, 32, 32, 104, 101, 108, 100, 32, 32, 32, 108, 111, 117, 100, 32, 32, 32, 115, 116, 101, 112, 32, 32, 32, 115, 105, 110, 103, 105, 110, 103, 98, 101, 115, 105, 100, 101, 32, 116, 105, 114, 101, 100, 32, 32], [40, 41, 59, 43, 45, 42, 60, 61]]
def byJ (i : Nat) (k : Nat) : Int32 := (bytJS.getD i []).getD k 0
def lnJ (i : Nat) : Nat := lenJS.getD i 0
def SB (adK adV : Nat → Nat) (A : Nat → Prop) (U : State) : Prop := vk_S 3 lenJS bytJS adK adV A U U.heap ∧ vk_R RX11 71 "must 0 ; may 8 < held ; thin 1 ;" (adK 0) U ∧ vk_R RX5 99 "must   may    thin   or     and    not    held   loud   step   singingbeside tired  " (adK 1) U ∧ vk_R RX5 107 "();+-*<=" (adK 2) U ∧ va_Z RJ0 "COMPACT_STRINGS" "Z" (.int 1) A U U.heap ∧ va_Zq RJ3 "SIOOBE_FORMATTER" "Ljava/util/function/BiFunction;" A U U.heap
theorem SB_cl {adK adV : Nat → Nat} {A : Nat → Prop} : Bcl A (SB adK adV A) := by
  refine ⟨fun s U hW hz hk h => ?_, fun U g mk a h => ?_⟩
  · obtain ⟨h1, h2, h3, h4, h5, h6⟩ := h
    exact ⟨(h1.moved hW.alike).kept hk, h2.warm hW, h3.warm hW, h4.warm hW, (h5.moved hW.alike).kept hk, (h6.moved hW.alike).kept hk⟩
  · obtain ⟨h1, h2, h3, h4, h5, h6⟩ := h
    exact ⟨vk_S.moved (u := U) (U := U.calling g mk a) (Vm.Alike.refl U.vm) h1, vk_R.same (u := U) rfl h2, vk_R.same (u := U) rfl h3, vk_R.same (u := U) rfl h4, va_Z.moved (u := U) (U := U.calling g mk a) (Vm.Alike.refl U.vm) h5, va_Zq.moved (u := U) (U := U.calling g mk a) (Vm.Alike.refl U.vm) h6⟩
theorem SB_nar {adK adV : Nat → Nat} {A A' : Nat → Prop} {U : State} (h : SB adK adV A U) (hAA : ∀ q, A' q → A q) : SB adK adV A' U := by
  obtain ⟨h1, h2, h3, h4, h5, h6⟩ := h
  exact ⟨h1.narrow hAA, h2, h3, h4, h5.narrow hAA, h6.narrow hAA⟩
def zB (v : Int32) : Bool := decide (v.toInt8.toInt32 = v)
theorem zB_i {v : Int32} (h : zB v = true) : narrow .byte (.int v) = .int v := by
  have h1 := of_decide_eq_true h
  show Value.int v.toInt8.toInt32 = _
  rw [h1]
def cB (v : Int32) : Bool := decide ((v.toUInt32 % 65536).toInt32 = v)
theorem cB_i {v : Int32} (h : cB v = true) : narrow .char (.int v) = .int v := by
  have h1 := of_decide_eq_true h
  have h2 := pk_nc v
  rw [h1] at h2
  exact h2
section ST
variable {p : Program} {l : Launch} {e : Env} {R : Room} {s : State} {m : MethodId} {args : Array Value} {below : List Frame} {meth : Method} {c : Code} {H H0 : Heap} {locs : List Loc} {cells slots : Nat} {Q : State → Prop}
variable {cc : ByteArray} {pc : Nat} {ls : Array Slot} {rest st0 : List Value} {D : va_G} {K : List Nat} {sh : Nat → Ent} {ad : Nat → Nat} {cy : Nat → ClassId} {X : va_W} {A : Nat → Prop} {B : State → Prop} {G G1 : Mem} {L L1 : MemL} {O O1 : MemO} {b : Nat}
variable {y : MethodName} {bytes : ByteArray} {maxL nL np index lv lv' cs ss : Nat} {ret rt : Option FieldType} {own C : String} {As : List Value}
theorem s_runT {Qc : Array Value → State → Outcome → State → Prop} {mc ms : Nat} (E : Cx p s m args meth c own cc nL rt) (hK : KS D cy s) (hI : IS D K sh ad cy X A s.heap H locs G L O) (hBU : ∀ U : State, U.heap = H → s.WarmedH U.vm → B U) (hBb : ∀ (U : State) (g : JFrame) (mk : MethodId) (a : Array Value), B U → B (U.calling g mk a)) (hrecv : ∃ cell : Cell, H[b]? = some cell ∧ cell.vm.isStatics = false ∧ s.vm.findClass C = some cell.cls)
    (hM : Met l y (wsU y bytes maxL ret) (rmX lv mc ms) (va_Pc (.ref b :: As) (PS D K sh ad cy X B G L O)) Qc mc ms (AS K ad X)) (hy : Ky y bytes maxL ret np) (hl : Cond.methodLink own index y ∈ UU) (h2 : Cond.instanceMethod y ∈ UU) (h3 : Cond.selects C y y ∈ UU) (hlv : lv + 1 ≤ lv') (hn : As.length = np) (hls : ls.size = nL) (hst : st0 = As.reverse ++ .ref b :: rest) (hW : (rest.map fun v => v.category).sum ≤ 8) (hf : cells + mc ≤ cs ∧ slots + ms ≤ ss) (hdg : decode cc pc = .ok (.invokevirtual index, 3)) :
    va_Run p l e (rmX lv' cs ss) s m args below meth c H locs cells slots mc ms (F0 m pc ls st0) rest (Qc (Value.ref b :: As).toArray) (AS K ad X) := by
  obtain ⟨hx, hb, hr, hml, hown, hu, hlocks⟩ := E
  obtain ⟨hP, hD, hS⟩ := hI
  exact va_runV (C := C) (As := As) (rest := rest) ⟨hx, hb, hml, hown, hu⟩ hM ⟨s_callB hu hy hlv hl, hu _ h2, hu _ h3⟩ ⟨PS_blind hBb, hrecv, fun U hU hW => ⟨rfl, by rw [hU]; exact hP, hD.weaken (fun _ _ _ _ => trivial), hK.warm hW, hBU U hU hW⟩⟩ rfl hn hls hst (lv_room hW) hdg hf
end ST
noncomputable def f_J0_coder_7d493  (i0 : Nat) : Int32 := (if (1 : Int32) = 0 then 1 else 0)
theorem kyJ0_coder_7d493 : Ky yJ0_coder_7d493 cJ0_coder_7d493 1 (some FieldType.byte) 0 := ⟨u1_208, u1_7, by decide, by decide, by decide, by decide +kernel⟩
set_option maxHeartbeats 4000000 in
set_option maxRecDepth 100000 in
theorem c_J0_coder_7d493 (l : Launch) (D : va_G) (K : List Nat) (sh : Nat → Ent) (ad : Nat → Nat) (cy : Nat → ClassId) (X : va_W) (B : State → Prop) (hcl : Bcl (AS K ad X) B) (adK adV : Nat → Nat) (hSB : ∀ U : State, B U → SB adK adV (AS K ad X) U) (i0 : Nat) (hi0 : i0 < 3) (G : Mem) (L : MemL) (O : MemO)   {vz : Int32} (hf : f_J0_coder_7d493 i0 = vz) : Met l yJ0_coder_7d493 (wsU yJ0_coder_7d493 cJ0_coder_7d493 1 (some FieldType.byte)) (rmX 1 0 0) (va_Pc [.ref (adK i0)] (PS D K sh ad cy X B G L O)) (QI (AS K ad X) (PH D K sh ad cy X G L O) vz) 0 0 (AS K ad X) := by
  refine s_met (by decide) (Nat.le_of_ble_eq_true rfl) ?_
  intro p e s m args below meth c ls H locs E hK hBs hnm hI hl
  have hl : lv_has ls 1 [(0, .ref (adK i0))] := hl
  have E : Cx p s m args meth c RJ0 cJ0_coder_7d493 1 (some FieldType.byte) := E
  obtain ⟨hx, hb, hr, hml, hown, hu, hlocks⟩ := id E
  rw [f_J0_coder_7d493] at hf
  refine va_gets (v := .int 1) hx hb (hSB _ hBs).2.2.2.2.1 hI.2.2 hown (hu _ u1_209) (fun _ h => h) dJ0_coder_7d493_0 ?_
  refine lv_if_eq (tgt := 13) hx hb dJ0_coder_7d493_3 (by decide) (fun c1 => ?_) (fun c1 => ?_)
  · have hf := ite_t c1 hf
    refine lv_iconst (v := 1) hx hb dJ0_coder_7d493_13 (by decide) ?_
    subst hf
    exact s_zret (zB_i (by decide)) hx hb hr hI.2.2 hI.1 hlocks dJ0_coder_7d493_14
  · have hf := ite_f c1 hf
    refine lv_aload_n hx hb dJ0_coder_7d493_6 rfl (lv_at hl 0 rfl) ?_
    refine vk_getf (v := .int 0) hx hb ((hSB _ hBs).1.1 i0 hi0).2.1 hI.2.2 hown (hu _ u6_159) (fun _ h => h) dJ0_coder_7d493_7 ?_
    refine lv_goto (tgt := 14) hx hb dJ0_coder_7d493_10 (by decide) ?_
    subst hf
    exact s_zret (zB_i (by decide)) hx hb hr hI.2.2 hI.1 hlocks dJ0_coder_7d493_14
noncomputable def f_J0_length_8abf5  (i0 : Nat) : Int32 := ((nI (lnJ i0)) >>> ((f_J0_coder_7d493 i0) &&& 31))
theorem kyJ0_length_8abf5 : Ky yJ0_length_8abf5 cJ0_length_8abf5 1 (some FieldType.int) 0 := ⟨u1_204, u1_7, by decide, by decide, by decide, by decide +kernel⟩
set_option maxHeartbeats 4000000 in
set_option maxRecDepth 100000 in
theorem c_J0_length_8abf5 (l : Launch) (D : va_G) (K : List Nat) (sh : Nat → Ent) (ad : Nat → Nat) (cy : Nat → ClassId) (X : va_W) (B : State → Prop) (hcl : Bcl (AS K ad X) B) (adK adV : Nat → Nat) (hSB : ∀ U : State, B U → SB adK adV (AS K ad X) U) (i0 : Nat) (hi0 : i0 < 3) (G : Mem) (L : MemL) (O : MemO)   {vz : Int32} (hf : f_J0_length_8abf5 i0 = vz) : Met l yJ0_length_8abf5 (wsU yJ0_length_8abf5 cJ0_length_8abf5 1 (some FieldType.int)) (rmX 2 0 0) (va_Pc [.ref (adK i0)] (PS D K sh ad cy X B G L O)) (QI (AS K ad X) (PH D K sh ad cy X G L O) vz) 0 0 (AS K ad X) := by
  refine s_met (by decide) (Nat.le_of_ble_eq_true rfl) ?_
  intro p e s m args below meth c ls H locs E hK hBs hnm hI hl
  have hl : lv_has ls 1 [(0, .ref (adK i0))] := hl
  have E : Cx p s m args meth c RJ0 cJ0_length_8abf5 1 (some FieldType.int) := E
  obtain ⟨hx, hb, hr, hml, hown, hu, hlocks⟩ := id E
  rw [f_J0_length_8abf5] at hf
  refine lv_aload_n hx hb dJ0_length_8abf5_0 rfl (lv_at hl 0 rfl) ?_
  refine vk_getf (v := .ref (adV i0)) hx hb ((hSB _ hBs).1.1 i0 hi0).2.2.1 hI.2.2 hown (hu _ u6_158) (fun _ h => h) dJ0_length_8abf5_1 ?_
  refine va_tlen (v := nI (lnJ i0)) hx hb ((hSB _ hBs).1.1 i0 hi0).2.2.2 hI.2.2 rfl dJ0_length_8abf5_4 ?_
  refine lv_aload_n hx hb dJ0_length_8abf5_5 rfl (lv_at hl 0 rfl) ?_
  refine s_afI hI (s_runT (rest := [.int (nI (lnJ i0))]) (As := []) (np := 0) E hK hI (s_B hcl hBs hI) hcl.2 (vk_recv (hSB _ hBs).1 hi0 hI.2.2) (c_J0_coder_7d493 l D K sh ad cy X B hcl adK adV hSB i0 hi0 G L O  rfl) kyJ0_coder_7d493 u1_205 u1_206 u1_207 (by decide) rfl hl.1 rfl (Nat.le_of_ble_eq_true rfl) ⟨Nat.zero_le _, Nat.zero_le _⟩ dJ0_length_8abf5_6) (fun H locs hI => ?_)
  refine lv_ishr hx hb dJ0_length_8abf5_9 ?_
  subst hf
  exact s_iret hx hb hr hI.2.2 hI.1 hlocks dJ0_length_8abf5_10
noncomputable def f_J0_isLatin1_aae02  (i0 : Nat) : Int32 := (if (1 : Int32) = 0 then 0 else (if (0 : Int32) = 0 then 1 else 0))
theorem b_J0_isLatin1_aae02 (i0 : Nat) : isB (f_J0_isLatin1_aae02 i0) = true := by
  unfold f_J0_isLatin1_aae02
  first | (repeat' split) <;> rfl
theorem kyJ0_isLatin1_aae02 : Ky yJ0_isLatin1_aae02 cJ0_isLatin1_aae02 1 (some FieldType.boolean) 0 := ⟨u1_218, u1_7, by decide, by decide, by decide, by decide +kernel⟩
set_option maxHeartbeats 4000000 in
set_option maxRecDepth 100000 in
theorem c_J0_isLatin1_aae02 (l : Launch) (D : va_G) (K : List Nat) (sh : Nat → Ent) (ad : Nat → Nat) (cy : Nat → ClassId) (X : va_W) (B : State → Prop) (hcl : Bcl (AS K ad X) B) (adK adV : Nat → Nat) (hSB : ∀ U : State, B U → SB adK adV (AS K ad X) U) (i0 : Nat) (hi0 : i0 < 3) (G : Mem) (L : MemL) (O : MemO)   {vz : Int32} (hf : f_J0_isLatin1_aae02 i0 = vz) : Met l yJ0_isLatin1_aae02 (wsU yJ0_isLatin1_aae02 cJ0_isLatin1_aae02 1 (some FieldType.boolean)) (rmX 1 0 0) (va_Pc [.ref (adK i0)] (PS D K sh ad cy X B G L O)) (QI (AS K ad X) (PH D K sh ad cy X G L O) vz) 0 0 (AS K ad X) := by
  refine s_met (by decide) (Nat.le_of_ble_eq_true rfl) ?_
  intro p e s m args below meth c ls H locs E hK hBs hnm hI hl
  have hl : lv_has ls 1 [(0, .ref (adK i0))] := hl
  have E : Cx p s m args meth c RJ0 cJ0_isLatin1_aae02 1 (some FieldType.boolean) := E
  obtain ⟨hx, hb, hr, hml, hown, hu, hlocks⟩ := id E
  rw [f_J0_isLatin1_aae02] at hf
  refine va_gets (v := .int 1) hx hb (hSB _ hBs).2.2.2.2.1 hI.2.2 hown (hu _ u1_209) (fun _ h => h) dJ0_isLatin1_aae02_0 ?_
  refine lv_if_eq (tgt := 17) hx hb dJ0_isLatin1_aae02_3 (by decide) (fun c1 => ?_) (fun c1 => ?_)
  · have hf := ite_t c1 hf
    refine lv_iconst (v := 0) hx hb dJ0_isLatin1_aae02_17 (by decide) ?_
    subst hf
    exact s_zret rfl hx hb hr hI.2.2 hI.1 hlocks dJ0_isLatin1_aae02_18
  · have hf := ite_f c1 hf
    refine lv_aload_n hx hb dJ0_isLatin1_aae02_6 rfl (lv_at hl 0 rfl) ?_
    refine vk_getf (v := .int 0) hx hb ((hSB _ hBs).1.1 i0 hi0).2.1 hI.2.2 hown (hu _ u6_159) (fun _ h => h) dJ0_isLatin1_aae02_7 ?_
    refine lv_if_ne (tgt := 17) hx hb dJ0_isLatin1_aae02_10 (by decide) (fun c2 => ?_) (fun c2 => ?_)
    · have hf := ite_f c2 hf
      refine lv_iconst (v := 0) hx hb dJ0_isLatin1_aae02_17 (by decide) ?_
      subst hf
      exact s_zret rfl hx hb hr hI.2.2 hI.1 hlocks dJ0_isLatin1_aae02_18
    · have hf := ite_t c2 hf
      refine lv_iconst (v := 1) hx hb dJ0_isLatin1_aae02_13 (by decide) ?_
      refine lv_goto (tgt := 18) hx hb dJ0_isLatin1_aae02_14 (by decide) ?_
      subst hf
      exact s_zret rfl hx hb hr hI.2.2 hI.1 hlocks dJ0_isLatin1_aae02_18
noncomputable def f_J3_checkIndex_8e157  (x0 : Int32) (x1 : Int32) : Option (Int32) := (if x0 < 0 then none else (if x0 < x1 then some x0 else none))
theorem kyJ3_checkIndex_8e157 : Ky yJ3_checkIndex_8e157 cJ3_checkIndex_8e157 3 (some FieldType.int) 3 := ⟨u1_229, u1_9, by decide, by decide, by decide, by decide +kernel⟩
set_option maxHeartbeats 4000000 in
set_option maxRecDepth 100000 in
theorem c_J3_checkIndex_8e157n (l : Launch) (D : va_G) (K : List Nat) (sh : Nat → Ent) (ad : Nat → Nat) (cy : Nat → ClassId) (X : va_W) (B : State → Prop) (hcl : Bcl (AS K ad X) B) (adK adV : Nat → Nat) (hSB : ∀ U : State, B U → SB adK adV (AS K ad X) U) (G : Mem) (L : MemL) (O : MemO) (x0 : Int32) (x1 : Int32)  {vz : Int32} (hf : f_J3_checkIndex_8e157 x0 x1 = some vz) : Met l yJ3_checkIndex_8e157 (wsU yJ3_checkIndex_8e157 cJ3_checkIndex_8e157 3 (some FieldType.int)) (rmX 1 0 0) (va_Pc [.int x0, .int x1, .null] (PS D K sh ad cy X B G L O)) (QI (AS K ad X) (PH D K sh ad cy X G L O) vz) 0 0 (AS K ad X) := by
  refine s_met (by decide) (Nat.le_of_ble_eq_true rfl) ?_
  intro p e s m args below meth c ls H locs E hK hBs hnm hI hl
  have hl : lv_has ls 3 [(0, .int x0), (1, .int x1), (2, .null)] := hl
  have E : Cx p s m args meth c RJ3 cJ3_checkIndex_8e157 3 (some FieldType.int) := E
  obtain ⟨hx, hb, hr, hml, hown, hu, hlocks⟩ := id E
  rw [f_J3_checkIndex_8e157] at hf
  refine lv_iload_n hx hb dJ3_checkIndex_8e157_0 rfl (lv_at hl 0 rfl) ?_
  refine lv_if_lt (tgt := 9) hx hb dJ3_checkIndex_8e157_1 (by decide) (fun c1 => ?_) (fun c1 => ?_)
  · have hf := ite_t c1 hf
    cases hf
  · have hf := ite_f c1 hf
    refine lv_iload_n hx hb dJ3_checkIndex_8e157_4 rfl (lv_at hl 0 rfl) ?_
    refine lv_iload_n hx hb dJ3_checkIndex_8e157_5 rfl (lv_at hl 1 rfl) ?_
    refine lv_icmp_lt (tgt := 16) hx hb dJ3_checkIndex_8e157_6 (by decide) (fun c2 => ?_) (fun c2 => ?_)
    · have hf := ite_t c2 hf
      refine lv_iload_n hx hb dJ3_checkIndex_8e157_16 rfl (lv_at hl 0 rfl) ?_
      cases hf
      exact s_iret hx hb hr hI.2.2 hI.1 hlocks dJ3_checkIndex_8e157_17
    · have hf := ite_f c2 hf
      cases hf
set_option maxHeartbeats 4000000 in
set_option maxRecDepth 100000 in
theorem c_J3_checkIndex_8e157x (l : Launch) (D : va_G) (K : List Nat) (sh : Nat → Ent) (ad : Nat → Nat) (cy : Nat → ClassId) (X : va_W) (B : State → Prop) (hcl : Bcl (AS K ad X) B) (adK adV : Nat → Nat) (hSB : ∀ U : State, B U → SB adK adV (AS K ad X) U) (t : Nat) (G : Mem) (L : MemL) (O : MemO) (x0 : Int32) (x1 : Int32)  {vz : Int32} (hf : f_J3_checkIndex_8e157 x0 x1 = some vz) : Met l yJ3_checkIndex_8e157 (wsU yJ3_checkIndex_8e157 cJ3_checkIndex_8e157 3 (some FieldType.int)) (rmX 1 0 0) (va_Pc [.int x0, .int x1, .ref t] (PS D K sh ad cy X B G L O)) (QI (AS K ad X) (PH D K sh ad cy X G L O) vz) 0 0 (AS K ad X) := by
  refine s_met (by decide) (Nat.le_of_ble_eq_true rfl) ?_
  intro p e s m args below meth c ls H locs E hK hBs hnm hI hl
  have hl : lv_has ls 3 [(0, .int x0), (1, .int x1), (2, .ref t)] := hl
  have E : Cx p s m args meth c RJ3 cJ3_checkIndex_8e157 3 (some FieldType.int) := E
  obtain ⟨hx, hb, hr, hml, hown, hu, hlocks⟩ := id E
  rw [f_J3_checkIndex_8e157] at hf
  refine lv_iload_n hx hb dJ3_checkIndex_8e157_0 rfl (lv_at hl 0 rfl) ?_
  refine lv_if_lt (tgt := 9) hx hb dJ3_checkIndex_8e157_1 (by decide) (fun c1 => ?_) (fun c1 => ?_)
  · have hf := ite_t c1 hf
    cases hf
  · have hf := ite_f c1 hf
    refine lv_iload_n hx hb dJ3_checkIndex_8e157_4 rfl (lv_at hl 0 rfl) ?_
    refine lv_iload_n hx hb dJ3_checkIndex_8e157_5 rfl (lv_at hl 1 rfl) ?_
    refine lv_icmp_lt (tgt := 16) hx hb dJ3_checkIndex_8e157_6 (by decide) (fun c2 => ?_) (fun c2 => ?_)
    · have hf := ite_t c2 hf
      refine lv_iload_n hx hb dJ3_checkIndex_8e157_16 rfl (lv_at hl 0 rfl) ?_
      cases hf
      exact s_iret hx hb hr hI.2.2 hI.1 hlocks dJ3_checkIndex_8e157_17
    · have hf := ite_f c2 hf
      cases hf
noncomputable def f_J0_checkIndex_df160  (x0 : Int32) (x1 : Int32) : Option (Unit) := bndO (f_J3_checkIndex_8e157 x0 x1) (fun v2 => some ())
theorem kyJ0_checkIndex_df160 : Ky yJ0_checkIndex_df160 cJ0_checkIndex_df160 2 none 2 := ⟨u1_224, u1_7, by decide, by decide, by decide, by decide +kernel⟩
set_option maxHeartbeats 4000000 in
set_option maxRecDepth 100000 in
theorem c_J0_checkIndex_df160 (l : Launch) (D : va_G) (K : List Nat) (sh : Nat → Ent) (ad : Nat → Nat) (cy : Nat → ClassId) (X : va_W) (B : State → Prop) (hcl : Bcl (AS K ad X) B) (adK adV : Nat → Nat) (hSB : ∀ U : State, B U → SB adK adV (AS K ad X) U) (G : Mem) (L : MemL) (O : MemO) (x0 : Int32) (x1 : Int32)  (hf : f_J0_checkIndex_df160 x0 x1 = some ()) : Met l yJ0_checkIndex_df160 (wsU yJ0_checkIndex_df160 cJ0_checkIndex_df160 2 none) (rmX 2 0 0) (va_Pc [.int x0, .int x1] (PS D K sh ad cy X B G L O)) (QV (AS K ad X) (PH D K sh ad cy X G L O)) 0 0 (AS K ad X) := by
  refine s_met (by decide) (Nat.le_of_ble_eq_true rfl) ?_
  intro p e s m args below meth c ls H locs E hK hBs hnm hI hl
  have hl : lv_has ls 2 [(0, .int x0), (1, .int x1)] := hl
  have E : Cx p s m args meth c RJ0 cJ0_checkIndex_df160 2 none := E
  obtain ⟨hx, hb, hr, hml, hown, hu, hlocks⟩ := id E
  rw [f_J0_checkIndex_df160] at hf
  refine lv_iload_n hx hb dJ0_checkIndex_df160_0 rfl (lv_at hl 0 rfl) ?_
  refine lv_iload_n hx hb dJ0_checkIndex_df160_1 rfl (lv_at hl 1 rfl) ?_
  rcases (hSB _ hBs).2.2.2.2.2 with hz | ⟨t, hz⟩
  · refine va_gets (v := .null) hx hb hz hI.2.2 hown (hu _ u1_225) (fun _ h => h) dJ0_checkIndex_df160_2 ?_
    obtain ⟨v2, h1, hf⟩ := bndO_i hf
    refine s_afI hI (s_runS (rest := []) (np := 3) E hK hI (s_B hcl hBs hI) hcl.2 (c_J3_checkIndex_8e157n l D K sh ad cy X B hcl adK adV hSB G L O x0 x1 h1) kyJ3_checkIndex_8e157 u1_227 u1_228 (by decide) rfl hl.1 rfl (Nat.le_of_ble_eq_true rfl) ⟨Nat.zero_le _, Nat.zero_le _⟩ dJ0_checkIndex_df160_5) (fun H locs hI => ?_)
    refine lv_pop hx hb dJ0_checkIndex_df160_8 rfl ?_
    cases hf
    exact s_vret hx hb hr hI.2.2 hI.1 hlocks dJ0_checkIndex_df160_9
  · refine va_gets (v := .ref t) hx hb hz hI.2.2 hown (hu _ u1_225) (fun _ h => h) dJ0_checkIndex_df160_2 ?_
    obtain ⟨v2, h1, hf⟩ := bndO_i hf
    refine s_afI hI (s_runS (rest := []) (np := 3) E hK hI (s_B hcl hBs hI) hcl.2 (c_J3_checkIndex_8e157x l D K sh ad cy X B hcl adK adV hSB t G L O x0 x1 h1) kyJ3_checkIndex_8e157 u1_227 u1_228 (by decide) rfl hl.1 rfl (Nat.le_of_ble_eq_true rfl) ⟨Nat.zero_le _, Nat.zero_le _⟩ dJ0_checkIndex_df160_5) (fun H locs hI => ?_)
    refine lv_pop hx hb dJ0_checkIndex_df160_8 rfl ?_
    cases hf
    exact s_vret hx hb hr hI.2.2 hI.1 hlocks dJ0_checkIndex_df160_9
noncomputable def f_J1_charAt_3b067  (i0 : Nat) (x1 : Int32) : Option (Int32) := bndO (f_J0_checkIndex_df160 x1 (nI (lnJ i0))) (fun _u => chk (inB x1 (lnJ i0)) (chk (cB ((((byJ i0 x1.toNatClampNeg) &&& 255).toUInt32 % 65536).toInt32)) (some ((((byJ i0 x1.toNatClampNeg) &&& 255).toUInt32 % 65536).toInt32))))
theorem kyJ1_charAt_3b067 : Ky yJ1_charAt_3b067 cJ1_charAt_3b067 2 (some FieldType.char) 2 := ⟨u1_221, u1_8, by decide, by decide, by decide, by decide +kernel⟩
set_option maxHeartbeats 4000000 in
set_option maxRecDepth 100000 in
theorem c_J1_charAt_3b067 (l : Launch) (D : va_G) (K : List Nat) (sh : Nat → Ent) (ad : Nat → Nat) (cy : Nat → ClassId) (X : va_W) (B : State → Prop) (hcl : Bcl (AS K ad X) B) (adK adV : Nat → Nat) (hSB : ∀ U : State, B U → SB adK adV (AS K ad X) U) (i0 : Nat) (hi0 : i0 < 3) (G : Mem) (L : MemL) (O : MemO) (x1 : Int32)  {vz : Int32} (hf : f_J1_charAt_3b067 i0 x1 = some vz) : Met l yJ1_charAt_3b067 (wsU yJ1_charAt_3b067 cJ1_charAt_3b067 2 (some FieldType.char)) (rmX 3 0 0) (va_Pc [.ref (adV i0), .int x1] (PS D K sh ad cy X B G L O)) (QI (AS K ad X) (PH D K sh ad cy X G L O) vz) 0 0 (AS K ad X) := by
  refine s_met (by decide) (Nat.le_of_ble_eq_true rfl) ?_
  intro p e s m args below meth c ls H locs E hK hBs hnm hI hl
  have hl : lv_has ls 2 [(0, .ref (adV i0)), (1, .int x1)] := hl
  have E : Cx p s m args meth c RJ1 cJ1_charAt_3b067 2 (some FieldType.char) := E
  obtain ⟨hx, hb, hr, hml, hown, hu, hlocks⟩ := id E
  rw [f_J1_charAt_3b067] at hf
  refine lv_iload_n hx hb dJ1_charAt_3b067_0 rfl (lv_at hl 1 rfl) ?_
  refine lv_aload_n hx hb dJ1_charAt_3b067_1 rfl (lv_at hl 0 rfl) ?_
  refine va_tlen (v := nI (lnJ i0)) hx hb ((hSB _ hBs).1.1 i0 hi0).2.2.2 hI.2.2 rfl dJ1_charAt_3b067_2 ?_
  obtain ⟨_u, h1, hf⟩ := bndO_i hf
  refine s_afV hI (s_runS (rest := []) (np := 2) E hK hI (s_B hcl hBs hI) hcl.2 (c_J0_checkIndex_df160 l D K sh ad cy X B hcl adK adV hSB G L O x1 (nI (lnJ i0)) h1) kyJ0_checkIndex_df160 u1_222 u1_223 (by decide) rfl hl.1 rfl (Nat.le_of_ble_eq_true rfl) ⟨Nat.zero_le _, Nat.zero_le _⟩ dJ1_charAt_3b067_3) (fun H locs hI => ?_)
  refine lv_aload_n hx hb dJ1_charAt_3b067_6 rfl (lv_at hl 0 rfl) ?_
  refine lv_iload_n hx hb dJ1_charAt_3b067_7 rfl (lv_at hl 1 rfl) ?_
  obtain ⟨h2, hf⟩ := chk_i hf
  refine va_tb (v := .int (byJ i0 x1.toNatClampNeg)) hx hb ((hSB _ hBs).1.1 i0 hi0).2.2.2 hI.2.2 (inB_i h2) rfl dJ1_charAt_3b067_8 ?_
  refine lv_sipush (v := 255) hx hb dJ1_charAt_3b067_9 (by decide) ?_
  refine lv_iand hx hb dJ1_charAt_3b067_12 ?_
  refine lv_i2c (v := ((((byJ i0 x1.toNatClampNeg) &&& 255).toUInt32 % 65536).toInt32)) hx hb dJ1_charAt_3b067_13 rfl ?_
  obtain ⟨h3, hf⟩ := chk_i hf
  cases hf
  exact s_zret (cB_i h3) hx hb hr hI.2.2 hI.1 hlocks dJ1_charAt_3b067_14
noncomputable def f_J0_charAt_5068e  (i0 : Nat) (x1 : Int32) : Option (Int32) := (if (f_J0_isLatin1_aae02 i0) = 0 then none else bndO (f_J1_charAt_3b067 i0 x1) (fun v3 => chk (cB v3) (some v3)))
theorem kyJ0_charAt_5068e : Ky yJ0_charAt_5068e cJ0_charAt_5068e 2 (some FieldType.char) 1 := ⟨u1_214, u1_7, by decide, by decide, by decide, by decide +kernel⟩
set_option maxHeartbeats 4000000 in
set_option maxRecDepth 100000 in
theorem c_J0_charAt_5068e (l : Launch) (D : va_G) (K : List Nat) (sh : Nat → Ent) (ad : Nat → Nat) (cy : Nat → ClassId) (X : va_W) (B : State → Prop) (hcl : Bcl (AS K ad X) B) (adK adV : Nat → Nat) (hSB : ∀ U : State, B U → SB adK adV (AS K ad X) U) (i0 : Nat) (hi0 : i0 < 3) (G : Mem) (L : MemL) (O : MemO) (x1 : Int32)  {vz : Int32} (hf : f_J0_charAt_5068e i0 x1 = some vz) : Met l yJ0_charAt_5068e (wsU yJ0_charAt_5068e cJ0_charAt_5068e 2 (some FieldType.char)) (rmX 4 0 0) (va_Pc [.ref (adK i0), .int x1] (PS D K sh ad cy X B G L O)) (QI (AS K ad X) (PH D K sh ad cy X G L O) vz) 0 0 (AS K ad X) := by
  refine s_met (by decide) (Nat.le_of_ble_eq_true rfl) ?_
  intro p e s m args below meth c ls H locs E hK hBs hnm hI hl
  have hl : lv_has ls 2 [(0, .ref (adK i0)), (1, .int x1)] := hl
  have E : Cx p s m args meth c RJ0 cJ0_charAt_5068e 2 (some FieldType.char) := E
  obtain ⟨hx, hb, hr, hml, hown, hu, hlocks⟩ := id E
  rw [f_J0_charAt_5068e] at hf
  refine lv_aload_n hx hb dJ0_charAt_5068e_0 rfl (lv_at hl 0 rfl) ?_
  refine s_afI hI (s_runT (rest := []) (As := []) (np := 0) E hK hI (s_B hcl hBs hI) hcl.2 (vk_recv (hSB _ hBs).1 hi0 hI.2.2) (c_J0_isLatin1_aae02 l D K sh ad cy X B hcl adK adV hSB i0 hi0 G L O  rfl) kyJ0_isLatin1_aae02 u1_215 u1_216 u1_217 (by decide) rfl hl.1 rfl (Nat.le_of_ble_eq_true rfl) ⟨Nat.zero_le _, Nat.zero_le _⟩ dJ0_charAt_5068e_1) (fun H locs hI => ?_)
  refine lv_if_eq (tgt := 16) hx hb dJ0_charAt_5068e_4 (by decide) (fun c1 => ?_) (fun c1 => ?_)
  · have hf := ite_t c1 hf
    cases hf
  · have hf := ite_f c1 hf
    refine lv_aload_n hx hb dJ0_charAt_5068e_7 rfl (lv_at hl 0 rfl) ?_
    refine vk_getf (v := .ref (adV i0)) hx hb ((hSB _ hBs).1.1 i0 hi0).2.2.1 hI.2.2 hown (hu _ u6_158) (fun _ h => h) dJ0_charAt_5068e_8 ?_
    refine lv_iload_n hx hb dJ0_charAt_5068e_11 rfl (lv_at hl 1 rfl) ?_
    obtain ⟨v3, h2, hf⟩ := bndO_i hf
    refine s_afI hI (s_runS (rest := []) (np := 2) E hK hI (s_B hcl hBs hI) hcl.2 (c_J1_charAt_3b067 l D K sh ad cy X B hcl adK adV hSB i0 hi0 G L O x1 h2) kyJ1_charAt_3b067 u1_219 u1_220 (by decide) rfl hl.1 rfl (Nat.le_of_ble_eq_true rfl) ⟨Nat.zero_le _, Nat.zero_le _⟩ dJ0_charAt_5068e_12) (fun H locs hI => ?_)
    obtain ⟨h4, hf⟩ := chk_i hf
    cases hf
    exact s_zret (cB_i h4) hx hb hr hI.2.2 hI.1 hlocks dJ0_charAt_5068e_15
noncomputable def f_J1_canEncode_9a6ad  (x0 : Int32) : Int32 := (if x0 < 0 then 0 else (if 255 < x0 then 0 else 1))
theorem b_J1_canEncode_9a6ad (x0 : Int32) : isB (f_J1_canEncode_9a6ad x0) = true := by
  unfold f_J1_canEncode_9a6ad
  first | (repeat' split) <;> rfl
theorem kyJ1_canEncode_9a6ad : Ky yJ1_canEncode_9a6ad cJ1_canEncode_9a6ad 1 (some FieldType.boolean) 1 := ⟨u2_57, u1_8, by decide, by decide, by decide, by decide +kernel⟩
set_option maxHeartbeats 4000000 in
set_option maxRecDepth 100000 in
theorem c_J1_canEncode_9a6ad (l : Launch) (x0 : Int32)  {vz : Int32} (hf : f_J1_canEncode_9a6ad x0 = vz) : Met l yJ1_canEncode_9a6ad (wsU yJ1_canEncode_9a6ad cJ1_canEncode_9a6ad 1 (some FieldType.boolean)) (rmX 1 0 0) (va_Pc [.int x0] (fun _ => True)) (QP vz) 0 0 noA := by
  refine s_met0 (by decide) (Nat.le_of_ble_eq_true rfl) ?_
  intro p e s m args below meth c ls E hl
  have hl : lv_has ls 1 [(0, .int x0)] := hl
  have E : Cx p s m args meth c RJ1 cJ1_canEncode_9a6ad 1 (some FieldType.boolean) := E
  obtain ⟨hx, hb, hr, hml, hown, hu, hlocks⟩ := id E
  rw [f_J1_canEncode_9a6ad] at hf
  refine lv_iload_n hx hb dJ1_canEncode_9a6ad_0 rfl (lv_at hl 0 rfl) ?_
  refine lv_if_lt (tgt := 15) hx hb dJ1_canEncode_9a6ad_1 (by decide) (fun c1 => ?_) (fun c1 => ?_)
  · have hf := ite_t c1 hf
    refine lv_iconst (v := 0) hx hb dJ1_canEncode_9a6ad_15 (by decide) ?_
    subst hf
    exact s_iretP rfl E dJ1_canEncode_9a6ad_16
  · have hf := ite_f c1 hf
    refine lv_iload_n hx hb dJ1_canEncode_9a6ad_4 rfl (lv_at hl 0 rfl) ?_
    refine lv_sipush (v := 255) hx hb dJ1_canEncode_9a6ad_5 (by decide) ?_
    refine lv_icmp_gt (tgt := 15) hx hb dJ1_canEncode_9a6ad_8 (by decide) (fun c2 => ?_) (fun c2 => ?_)
    · have hf := ite_t c2 hf
      refine lv_iconst (v := 0) hx hb dJ1_canEncode_9a6ad_15 (by decide) ?_
      subst hf
      exact s_iretP rfl E dJ1_canEncode_9a6ad_16
    · have hf := ite_f c2 hf
      refine lv_iconst (v := 1) hx hb dJ1_canEncode_9a6ad_11 (by decide) ?_
      refine lv_goto (tgt := 16) hx hb dJ1_canEncode_9a6ad_12 (by decide) ?_
      subst hf
      exact s_iretP rfl E dJ1_canEncode_9a6ad_16
noncomputable def q_J1_indexOfChar_4cfef_7 (i0 : Nat) (x1 : Int32) (x2 : Int32) (x3 : Int32)  (rec : (Int32 × Int32) → Option (Int32)) : (Int32 × Int32) → Option (Int32) := fun (x4, x5) => (if x3 ≤ x5 then some (-1) else chk (inB x5 (lnJ i0)) ((if (byJ i0 x5.toNatClampNeg) = x4 then some x5 else bnd (x5 + 1) (fun x5_5 => rec (x4, x5_5)))))
noncomputable def f_J1_indexOfChar_4cfef  (i0 : Nat) (x1 : Int32) (x2 : Int32) (x3 : Int32) : Option (Int32) := bnd (x1.toInt8.toInt32) (fun x4_1 => iter (q_J1_indexOfChar_4cfef_7 i0 x1 x2 x3) fuel (x4_1, x2))
theorem kyJ1_indexOfChar_4cfef : Ky yJ1_indexOfChar_4cfef cJ1_indexOfChar_4cfef 6 (some FieldType.int) 4 := ⟨u2_64, u1_8, by decide, by decide, by decide, by decide +kernel⟩
set_option maxHeartbeats 4000000 in
set_option maxRecDepth 100000 in
theorem c_J1_indexOfChar_4cfef (l : Launch) (D : va_G) (K : List Nat) (sh : Nat → Ent) (ad : Nat → Nat) (cy : Nat → ClassId) (X : va_W) (B : State → Prop) (hcl : Bcl (AS K ad X) B) (adK adV : Nat → Nat) (hSB : ∀ U : State, B U → SB adK adV (AS K ad X) U) (i0 : Nat) (hi0 : i0 < 3) (G : Mem) (L : MemL) (O : MemO) (x1 : Int32) (x2 : Int32) (x3 : Int32)  {vz : Int32} (hf : f_J1_indexOfChar_4cfef i0 x1 x2 x3 = some vz) : Met l yJ1_indexOfChar_4cfef (wsU yJ1_indexOfChar_4cfef cJ1_indexOfChar_4cfef 6 (some FieldType.int)) (rmX 1 0 0) (va_Pc [.ref (adV i0), .int x1, .int x2, .int x3] (PS D K sh ad cy X B G L O)) (QI (AS K ad X) (PH D K sh ad cy X G L O) vz) 0 0 (AS K ad X) := by
  refine s_met (by decide) (Nat.le_of_ble_eq_true rfl) ?_
  intro p e s m args below meth c ls H locs E hK hBs hnm hI hl
  have hl : lv_has ls 6 [(0, .ref (adV i0)), (1, .int x1), (2, .int x2), (3, .int x3)] := hl
  have E : Cx p s m args meth c RJ1 cJ1_indexOfChar_4cfef 6 (some FieldType.int) := E
  obtain ⟨hx, hb, hr, hml, hown, hu, hlocks⟩ := id E
  have B7 : ∀   (n : Nat) (x4 : Int32) (x5 : Int32) (H : Heap) (locs : List Loc) (ls : Array Slot), lv_has ls 6 [(0, .ref (adV i0)), (3, .int x3), (4, .int x4), (5, .int x5)] → IS D K sh ad cy X (AS K ad X) s.heap H locs G L O → iter (q_J1_indexOfChar_4cfef_7 i0 x1 x2 x3) n (x4, x5) = some vz → W p l e (rmX 1 0 0) s m args below meth c H locs 0 0 (MQ below (QI (AS K ad X) (PH D K sh ad cy X G L O) vz) args s 0 0 (AS K ad X)) (F0 m 7 ls []) := by
    intro n
    induction n with
    | zero => intro x4 x5 H locs ls hl hI hf; exact iter_0 hf
    | succ n ih =>
      intro x4 x5 H locs ls hl hI hf
      have hf : q_J1_indexOfChar_4cfef_7 i0 x1 x2 x3 (iter (q_J1_indexOfChar_4cfef_7 i0 x1 x2 x3) n) (x4, x5) = some vz := hf
      rw [q_J1_indexOfChar_4cfef_7] at hf
      refine lv_iload hx hb dJ1_indexOfChar_4cfef_7 (lv_at hl 3 rfl) ?_
      refine lv_iload_n hx hb dJ1_indexOfChar_4cfef_9 rfl (lv_at hl 1 rfl) ?_
      refine lv_icmp_ge (tgt := 31) hx hb dJ1_indexOfChar_4cfef_10 (by decide) (fun c2 => ?_) (fun c2 => ?_)
      · have hf := ite_t c2 hf
        refine lv_iconst (v := (-1)) hx hb dJ1_indexOfChar_4cfef_31 (by decide) ?_
        cases hf
        exact s_iret hx hb hr hI.2.2 hI.1 hlocks dJ1_indexOfChar_4cfef_32
      · have hf := ite_f c2 hf
        refine lv_aload_n hx hb dJ1_indexOfChar_4cfef_13 rfl (lv_at hl 0 rfl) ?_
        refine lv_iload hx hb dJ1_indexOfChar_4cfef_14 (lv_at hl 3 rfl) ?_
        obtain ⟨h3, hf⟩ := chk_i hf
        refine va_tb (v := .int (byJ i0 x5.toNatClampNeg)) hx hb ((hSB _ hBs).1.1 i0 hi0).2.2.2 hI.2.2 (inB_i h3) rfl dJ1_indexOfChar_4cfef_16 ?_
        refine lv_iload hx hb dJ1_indexOfChar_4cfef_17 (lv_at hl 2 rfl) ?_
        refine lv_icmp_ne (tgt := 25) hx hb dJ1_indexOfChar_4cfef_19 (by decide) (fun c4 => ?_) (fun c4 => ?_)
        · have hf := ite_f c4 hf
          obtain ⟨x5_5, ex5_5, hf⟩ := bnd_i hf
          refine lv_iinc (v := x5_5) (lv' := [(5, .int x5_5), (0, .ref (adV i0)), (3, .int x3), (4, .int x4)]) hx hb dJ1_indexOfChar_4cfef_25 hl (k := 3) rfl (by rw [ex5_5]; rfl) (by decide) rfl (fun ls hl => ?_)
          refine lv_goto (tgt := 7) hx hb dJ1_indexOfChar_4cfef_28 (by decide) ?_
          exact ih x4 x5_5 H locs ls (lv_sub hl [1, 2, 3, 0] rfl) hI hf
        · have hf := ite_t c4 hf
          refine lv_iload hx hb dJ1_indexOfChar_4cfef_22 (lv_at hl 3 rfl) ?_
          cases hf
          exact s_iret hx hb hr hI.2.2 hI.1 hlocks dJ1_indexOfChar_4cfef_24
  rw [f_J1_indexOfChar_4cfef] at hf
  refine lv_iload_n hx hb dJ1_indexOfChar_4cfef_0 rfl (lv_at hl 1 rfl) ?_
  refine lv_i2b (v := (x1.toInt8.toInt32)) hx hb dJ1_indexOfChar_4cfef_1 rfl ?_
  obtain ⟨x4_1, ex4_1, hf⟩ := bnd_i hf
  refine s_nmI ex4_1 ?_
  refine lv_istore (lv' := [(4, .int x4_1), (0, .ref (adV i0)), (1, .int x1), (2, .int x2), (3, .int x3)]) hx hb dJ1_indexOfChar_4cfef_2 hl (by decide) rfl (fun ls hl => ?_)
  refine lv_iload_n hx hb dJ1_indexOfChar_4cfef_4 rfl (lv_at hl 3 rfl) ?_
  refine lv_istore (lv' := [(5, .int x2), (4, .int x4_1), (0, .ref (adV i0)), (1, .int x1), (2, .int x2), (3, .int x3)]) hx hb dJ1_indexOfChar_4cfef_5 hl (by decide) rfl (fun ls hl => ?_)
  exact B7   fuel x4_1 x2 H locs ls (lv_sub hl [2, 5, 1, 0] rfl) hI hf
noncomputable def f_J1_indexOf_4cfef  (i0 : Nat) (x1 : Int32) (x2 : Int32) (x3 : Int32) : Option (Int32) := (if (f_J1_canEncode_9a6ad x1) = 0 then some (-1) else bnd (if x2 < 0 then 0 else x2) (fun x2_2 => bnd (if (nI (lnJ i0)) < x3 then (nI (lnJ i0)) else x3) (fun x3_3 => (if x2_2 < x3_3 then bndO (f_J1_indexOfChar_4cfef i0 x1 x2_2 x3_3) (fun v6 => some v6) else some (-1)))))
theorem kyJ1_indexOf_4cfef : Ky yJ1_indexOf_4cfef cJ1_indexOf_4cfef 4 (some FieldType.int) 4 := ⟨u2_54, u1_8, by decide, by decide, by decide, by decide +kernel⟩
set_option maxHeartbeats 4000000 in
set_option maxRecDepth 100000 in
theorem c_J1_indexOf_4cfef (l : Launch) (D : va_G) (K : List Nat) (sh : Nat → Ent) (ad : Nat → Nat) (cy : Nat → ClassId) (X : va_W) (B : State → Prop) (hcl : Bcl (AS K ad X) B) (adK adV : Nat → Nat) (hSB : ∀ U : State, B U → SB adK adV (AS K ad X) U) (i0 : Nat) (hi0 : i0 < 3) (G : Mem) (L : MemL) (O : MemO) (x1 : Int32) (x2 : Int32) (x3 : Int32)  {vz : Int32} (hf : f_J1_indexOf_4cfef i0 x1 x2 x3 = some vz) : Met l yJ1_indexOf_4cfef (wsU yJ1_indexOf_4cfef cJ1_indexOf_4cfef 4 (some FieldType.int)) (rmX 2 0 0) (va_Pc [.ref (adV i0), .int x1, .int x2, .int x3] (PS D K sh ad cy X B G L O)) (QI (AS K ad X) (PH D K sh ad cy X G L O) vz) 0 0 (AS K ad X) := by
  refine s_met (by decide) (Nat.le_of_ble_eq_true rfl) ?_
  intro p e s m args below meth c ls H locs E hK hBs hnm hI hl
  have hl : lv_has ls 4 [(0, .ref (adV i0)), (1, .int x1), (2, .int x2), (3, .int x3)] := hl
  have E : Cx p s m args meth c RJ1 cJ1_indexOf_4cfef 4 (some FieldType.int) := E
  obtain ⟨hx, hb, hr, hml, hown, hu, hlocks⟩ := id E
  rw [f_J1_indexOf_4cfef] at hf
  refine lv_iload_n hx hb dJ1_indexOf_4cfef_0 rfl (lv_at hl 1 rfl) ?_
  refine s_cSP (np := 1) (rest := []) E (c_J1_canEncode_9a6ad l x1 rfl) kyJ1_canEncode_9a6ad u2_55 u2_56 (by decide) rfl hl.1 rfl (Nat.le_of_ble_eq_true rfl) ⟨Nat.zero_le _, Nat.zero_le _⟩ dJ1_indexOf_4cfef_1 ?_
  refine lv_if_ne (tgt := 9) hx hb dJ1_indexOf_4cfef_4 (by decide) (fun c1 => ?_) (fun c1 => ?_)
  · have hf := ite_f c1 hf
    refine lv_iload_n hx hb dJ1_indexOf_4cfef_9 rfl (lv_at hl 2 rfl) ?_
    refine lv_iconst (v := 0) hx hb dJ1_indexOf_4cfef_10 (by decide) ?_
    refine s_mmax (rest := []) E hl.1 u2_58 u2_59 u1_11 u2_60 (by decide) (Nat.le_of_ble_eq_true rfl) ⟨Nat.zero_le _, Nat.zero_le _⟩ dJ1_indexOf_4cfef_11 ?_
    obtain ⟨x2_2, ex2_2, hf⟩ := bnd_i hf
    refine s_nmI ex2_2 ?_
    refine lv_istore_n (lv' := [(2, .int x2_2), (0, .ref (adV i0)), (1, .int x1), (3, .int x3)]) hx hb dJ1_indexOf_4cfef_14 rfl hl (by decide) rfl (fun ls hl => ?_)
    refine lv_iload_n hx hb dJ1_indexOf_4cfef_15 rfl (lv_at hl 3 rfl) ?_
    refine lv_aload_n hx hb dJ1_indexOf_4cfef_16 rfl (lv_at hl 1 rfl) ?_
    refine va_tlen (v := nI (lnJ i0)) hx hb ((hSB _ hBs).1.1 i0 hi0).2.2.2 hI.2.2 rfl dJ1_indexOf_4cfef_17 ?_
    refine s_mmin (rest := []) E hl.1 u2_61 u2_32 u1_11 u2_33 (by decide) (Nat.le_of_ble_eq_true rfl) ⟨Nat.zero_le _, Nat.zero_le _⟩ dJ1_indexOf_4cfef_18 ?_
    obtain ⟨x3_3, ex3_3, hf⟩ := bnd_i hf
    refine s_nmI ex3_3 ?_
    refine lv_istore_n (lv' := [(3, .int x3_3), (2, .int x2_2), (0, .ref (adV i0)), (1, .int x1)]) hx hb dJ1_indexOf_4cfef_21 rfl hl (by decide) rfl (fun ls hl => ?_)
    refine lv_iload_n hx hb dJ1_indexOf_4cfef_22 rfl (lv_at hl 1 rfl) ?_
    refine lv_iload_n hx hb dJ1_indexOf_4cfef_23 rfl (lv_at hl 0 rfl) ?_
    refine lv_icmp_lt (tgt := 29) hx hb dJ1_indexOf_4cfef_24 (by decide) (fun c4 => ?_) (fun c4 => ?_)
    · have hf := ite_t c4 hf
      refine lv_aload_n hx hb dJ1_indexOf_4cfef_29 rfl (lv_at hl 2 rfl) ?_
      refine lv_iload_n hx hb dJ1_indexOf_4cfef_30 rfl (lv_at hl 3 rfl) ?_
      refine lv_iload_n hx hb dJ1_indexOf_4cfef_31 rfl (lv_at hl 1 rfl) ?_
      refine lv_iload_n hx hb dJ1_indexOf_4cfef_32 rfl (lv_at hl 0 rfl) ?_
      obtain ⟨v6, h5, hf⟩ := bndO_i hf
      refine s_afI hI (s_runS (rest := []) (np := 4) E hK hI (s_B hcl hBs hI) hcl.2 (c_J1_indexOfChar_4cfef l D K sh ad cy X B hcl adK adV hSB i0 hi0 G L O x1 x2_2 x3_3 h5) kyJ1_indexOfChar_4cfef u2_62 u2_63 (by decide) rfl hl.1 rfl (Nat.le_of_ble_eq_true rfl) ⟨Nat.zero_le _, Nat.zero_le _⟩ dJ1_indexOf_4cfef_33) (fun H locs hI => ?_)
      cases hf
      exact s_iret hx hb hr hI.2.2 hI.1 hlocks dJ1_indexOf_4cfef_36
    · have hf := ite_f c4 hf
      refine lv_iconst (v := (-1)) hx hb dJ1_indexOf_4cfef_27 (by decide) ?_
      cases hf
      exact s_iret hx hb hr hI.2.2 hI.1 hlocks dJ1_indexOf_4cfef_28
  · have hf := ite_t c1 hf
    refine lv_iconst (v := (-1)) hx hb dJ1_indexOf_4cfef_7 (by decide) ?_
    cases hf
    exact s_iret hx hb hr hI.2.2 hI.1 hlocks dJ1_indexOf_4cfef_8
noncomputable def f_J0_indexOf_7cf53  (i0 : Nat) (x1 : Int32) (x2 : Int32) : Option (Int32) := (if (f_J0_isLatin1_aae02 i0) = 0 then none else bndO (f_J1_indexOf_4cfef i0 x1 x2 (f_J0_length_8abf5 i0)) (fun v3 => some v3))
theorem kyJ0_indexOf_7cf53 : Ky yJ0_indexOf_7cf53 cJ0_indexOf_7cf53 3 (some FieldType.int) 2 := ⟨u2_50, u1_7, by decide, by decide, by decide, by decide +kernel⟩
set_option maxHeartbeats 4000000 in
set_option maxRecDepth 100000 in
theorem c_J0_indexOf_7cf53 (l : Launch) (D : va_G) (K : List Nat) (sh : Nat → Ent) (ad : Nat → Nat) (cy : Nat → ClassId) (X : va_W) (B : State → Prop) (hcl : Bcl (AS K ad X) B) (adK adV : Nat → Nat) (hSB : ∀ U : State, B U → SB adK adV (AS K ad X) U) (i0 : Nat) (hi0 : i0 < 3) (G : Mem) (L : MemL) (O : MemO) (x1 : Int32) (x2 : Int32)  {vz : Int32} (hf : f_J0_indexOf_7cf53 i0 x1 x2 = some vz) : Met l yJ0_indexOf_7cf53 (wsU yJ0_indexOf_7cf53 cJ0_indexOf_7cf53 3 (some FieldType.int)) (rmX 3 0 0) (va_Pc [.ref (adK i0), .int x1, .int x2] (PS D K sh ad cy X B G L O)) (QI (AS K ad X) (PH D K sh ad cy X G L O) vz) 0 0 (AS K ad X) := by
  refine s_met (by decide) (Nat.le_of_ble_eq_true rfl) ?_
  intro p e s m args below meth c ls H locs E hK hBs hnm hI hl
  have hl : lv_has ls 3 [(0, .ref (adK i0)), (1, .int x1), (2, .int x2)] := hl
  have E : Cx p s m args meth c RJ0 cJ0_indexOf_7cf53 3 (some FieldType.int) := E
  obtain ⟨hx, hb, hr, hml, hown, hu, hlocks⟩ := id E
  rw [f_J0_indexOf_7cf53] at hf
  refine lv_aload_n hx hb dJ0_indexOf_7cf53_0 rfl (lv_at hl 0 rfl) ?_
  refine s_afI hI (s_runT (rest := []) (As := []) (np := 0) E hK hI (s_B hcl hBs hI) hcl.2 (vk_recv (hSB _ hBs).1 hi0 hI.2.2) (c_J0_isLatin1_aae02 l D K sh ad cy X B hcl adK adV hSB i0 hi0 G L O  rfl) kyJ0_isLatin1_aae02 u1_215 u1_216 u1_217 (by decide) rfl hl.1 rfl (Nat.le_of_ble_eq_true rfl) ⟨Nat.zero_le _, Nat.zero_le _⟩ dJ0_indexOf_7cf53_1) (fun H locs hI => ?_)
  refine lv_if_eq (tgt := 23) hx hb dJ0_indexOf_7cf53_4 (by decide) (fun c1 => ?_) (fun c1 => ?_)
  · have hf := ite_t c1 hf
    cases hf
  · have hf := ite_f c1 hf
    refine lv_aload_n hx hb dJ0_indexOf_7cf53_7 rfl (lv_at hl 0 rfl) ?_
    refine vk_getf (v := .ref (adV i0)) hx hb ((hSB _ hBs).1.1 i0 hi0).2.2.1 hI.2.2 hown (hu _ u6_158) (fun _ h => h) dJ0_indexOf_7cf53_8 ?_
    refine lv_iload_n hx hb dJ0_indexOf_7cf53_11 rfl (lv_at hl 1 rfl) ?_
    refine lv_iload_n hx hb dJ0_indexOf_7cf53_12 rfl (lv_at hl 2 rfl) ?_
    refine lv_aload_n hx hb dJ0_indexOf_7cf53_13 rfl (lv_at hl 0 rfl) ?_
    refine s_afI hI (s_runT (rest := [.int x2, .int x1, .ref (adV i0)]) (As := []) (np := 0) E hK hI (s_B hcl hBs hI) hcl.2 (vk_recv (hSB _ hBs).1 hi0 hI.2.2) (c_J0_length_8abf5 l D K sh ad cy X B hcl adK adV hSB i0 hi0 G L O  rfl) kyJ0_length_8abf5 u2_51 u1_202 u1_203 (by decide) rfl hl.1 rfl (Nat.le_of_ble_eq_true rfl) ⟨Nat.zero_le _, Nat.zero_le _⟩ dJ0_indexOf_7cf53_14) (fun H locs hI => ?_)
    obtain ⟨v3, h2, hf⟩ := bndO_i hf
    refine s_afI hI (s_runS (rest := []) (np := 4) E hK hI (s_B hcl hBs hI) hcl.2 (c_J1_indexOf_4cfef l D K sh ad cy X B hcl adK adV hSB i0 hi0 G L O x1 x2 (f_J0_length_8abf5 i0) h2) kyJ1_indexOf_4cfef u2_52 u2_53 (by decide) rfl hl.1 rfl (Nat.le_of_ble_eq_true rfl) ⟨Nat.zero_le _, Nat.zero_le _⟩ dJ0_indexOf_7cf53_17) (fun H locs hI => ?_)
    refine lv_goto (tgt := 36) hx hb dJ0_indexOf_7cf53_20 (by decide) ?_
    cases hf
    exact s_iret hx hb hr hI.2.2 hI.1 hlocks dJ0_indexOf_7cf53_36
noncomputable def f_J0_indexOf_0f7a4  (i0 : Nat) (x1 : Int32) : Option (Int32) := bndO (f_J0_indexOf_7cf53 i0 x1 0) (fun v2 => some v2)
theorem kyJ0_indexOf_0f7a4 : Ky yJ0_indexOf_0f7a4 cJ0_indexOf_0f7a4 2 (some FieldType.int) 1 := ⟨u2_46, u1_7, by decide, by decide, by decide, by decide +kernel⟩
set_option maxHeartbeats 4000000 in
set_option maxRecDepth 100000 in
theorem c_J0_indexOf_0f7a4 (l : Launch) (D : va_G) (K : List Nat) (sh : Nat → Ent) (ad : Nat → Nat) (cy : Nat → ClassId) (X : va_W) (B : State → Prop) (hcl : Bcl (AS K ad X) B) (adK adV : Nat → Nat) (hSB : ∀ U : State, B U → SB adK adV (AS K ad X) U) (i0 : Nat) (hi0 : i0 < 3) (G : Mem) (L : MemL) (O : MemO) (x1 : Int32)  {vz : Int32} (hf : f_J0_indexOf_0f7a4 i0 x1 = some vz) : Met l yJ0_indexOf_0f7a4 (wsU yJ0_indexOf_0f7a4 cJ0_indexOf_0f7a4 2 (some FieldType.int)) (rmX 4 0 0) (va_Pc [.ref (adK i0), .int x1] (PS D K sh ad cy X B G L O)) (QI (AS K ad X) (PH D K sh ad cy X G L O) vz) 0 0 (AS K ad X) := by
  refine s_met (by decide) (Nat.le_of_ble_eq_true rfl) ?_
  intro p e s m args below meth c ls H locs E hK hBs hnm hI hl
  have hl : lv_has ls 2 [(0, .ref (adK i0)), (1, .int x1)] := hl
  have E : Cx p s m args meth c RJ0 cJ0_indexOf_0f7a4 2 (some FieldType.int) := E
  obtain ⟨hx, hb, hr, hml, hown, hu, hlocks⟩ := id E
  rw [f_J0_indexOf_0f7a4] at hf
  refine lv_aload_n hx hb dJ0_indexOf_0f7a4_0 rfl (lv_at hl 0 rfl) ?_
  refine lv_iload_n hx hb dJ0_indexOf_0f7a4_1 rfl (lv_at hl 1 rfl) ?_
  refine lv_iconst (v := 0) hx hb dJ0_indexOf_0f7a4_2 (by decide) ?_
  obtain ⟨v2, h1, hf⟩ := bndO_i hf
  refine s_afI hI (s_runT (rest := []) (As := [.int x1, .int 0]) (np := 2) E hK hI (s_B hcl hBs hI) hcl.2 (vk_recv (hSB _ hBs).1 hi0 hI.2.2) (c_J0_indexOf_7cf53 l D K sh ad cy X B hcl adK adV hSB i0 hi0 G L O x1 0 h1) kyJ0_indexOf_7cf53 u2_47 u2_48 u2_49 (by decide) rfl hl.1 rfl (Nat.le_of_ble_eq_true rfl) ⟨Nat.zero_le _, Nat.zero_le _⟩ dJ0_indexOf_0f7a4_3) (fun H locs hI => ?_)
  cases hf
  exact s_iret hx hb hr hI.2.2 hI.1 hlocks dJ0_indexOf_0f7a4_6
