section SX
variable {p : Program} {l : Launch} {e : Env} {R : Room} {s : State} {m : MethodId} {args : Array Value} {below : List Frame} {meth : Method} {c : Code} {H H0 : Heap} {locs : List Loc} {cells slots : Nat} {Q : State → Prop}
variable {cc : ByteArray} {pc : Nat} {ls : Array Slot} {rest st0 : List Value} {D : va_G} {K : List Nat} {sh : Nat → Ent} {ad : Nat → Nat} {cy : Nat → ClassId} {X : va_W} {A : Nat → Prop} {B : State → Prop} {G G1 : Mem} {L L1 : MemL} {O O1 : MemO} {S : Nat → Nat} {k n : Nat} {fl : List Nat}
variable {y x : MethodName} {bytes : ByteArray} {maxL nL np index lv lv' cs ss : Nat} {ret rt : Option FieldType} {own mid C owner host : String} {As : List Value} {v : Int32} {w : Int64}
/-- super, where the class above only inherits the method -/
theorem s_runSUx {Qc : Array Value → State → Outcome → State → Prop} {mc ms : Nat} (E : Cx p s m args meth c own cc nL rt) (hK : KS D cy s) (hI : IS D K sh ad cy X A s.heap H locs G L O) (hBU : ∀ U : State, U.heap = H → s.WarmedH U.vm → B U) (hBb : ∀ (U : State) (g : JFrame) (mk : MethodId) (a : Array Value), B U → B (U.calling g mk a)) (hE : SgH S K sh k)
    (hM : Met l y (wsU y bytes maxL ret) (rmX lv mc ms) (va_Pc (.ref (ad k) :: As) (PS D K sh ad cy X B G L O)) Qc mc ms (AS K ad X)) (hy : Ky y bytes maxL ret np) (hlv : lv + 1 ≤ lv') (hyx : y = ⟨owner, x.name, x.desc⟩) (l1 : Cond.methodLink own index x ∈ UU) (l2 : Cond.sameMethod x.cls owner x.name x.desc ∈ UU) (l3 : Cond.superclass own x.cls ∈ UU) (l3' : Cond.superclass x.cls owner ∈ UU) (l4 : Cond.instanceMethod y ∈ UU) (hno : x.name ≠ "<init>") (hn : As.length = np) (hls : ls.size = nL) (hst : st0 = As.reverse ++ .ref (ad k) :: rest) (hW : (rest.map fun v => v.category).sum ≤ 8) (hf : cells + mc ≤ cs ∧ slots + ms ≤ ss) (hdg : decode cc pc = .ok (.invokespecial index, 3)) :
    va_Run p l e (rmX lv' cs ss) s m args below meth c H locs cells slots mc ms (F0 m pc ls st0) rest (Qc (Value.ref (ad k) :: As).toArray) (AS K ad X) := by
  obtain ⟨hx, hb, hr, hml, hown, hu, hlocks⟩ := E
  obtain ⟨⟨h1, h2⟩, h3⟩ := hE
  obtain ⟨h5, h4, hm, hd⟩ := hy
  obtain ⟨q, hq, -⟩ := wS_at (sh := sh) (ad := ad) (cy := cy) (G := G) (L := L) (O := O) (X := X) h1
  rw [entE_o h2] at hq
  obtain ⟨hP, hD, hS⟩ := hI
  have hc : ∃ r, vwCl[S k]? = some r := by
    rcases sg_cases h3 with q | q | q | q | q | q <;> rw [q] <;> exact ⟨_, rfl⟩
  obtain ⟨r, hc⟩ := hc
  have hG := uu_words h5
  obtain ⟨hfc, kB, hkB, -⟩ := (hK.1.1 _ r hc).2
  obtain ⟨cellB, hcB, hoB, hclB⟩ := va_recv hK.1 hP hc hq
  have hce : cellB.cls = D.1 (S k) := Option.some.inj (hclB.symm.trans hfc)
  have hkB : s.vm.classes[cellB.cls]? = some kB := by rw [hce]; exact hkB
  have hKb : Back l (rmX lv' cs ss) p e below s args y 3 8 (PreOf (rmX lv' cs ss) mc ms (va_Pc (.ref (ad k) :: As) (PS D K sh ad cy X B G L O))) (PostOf Qc mc ms (AS K ad X)) := back_of (bytes := bytes) (maxL := maxL) (ret := ret) hM (PS_blind hBb) rfl rfl hlv (by show 8 + (maxL + 11) + 40 * lv ≤ 40 * lv'; omega) (pay_in hu hG) List.mem_cons_self (fun a' U hW => word_at hW (Or.inl (by first | rfl | simp [Cond.onTables, Cond.keeps, Cond.steady])) (hu _ h4))
  have hcode := hu _ h5
  obtain ⟨mk, methM, hnamed, hmethM, hstM, habM⟩ := Cond.instanceMethod_spec (hu _ l4)
  obtain ⟨methM', cM, hmethM', -, -, -, -, -, -, hsigM⟩ := Cond.code_spec hnamed hcode
  cases hmethM.symm.trans hmethM'
  obtain ⟨ps, dk, kp, hps, hdk, hkp, hsuper, -, -, hnid⟩ := Cond.superclass_spec hown (hu _ l3)
  obtain ⟨ps2, dk2, kp2, hps2, hdk2, hkp2, hsuper2, -, -, -⟩ := Cond.superclass_spec hps (hu _ l3')
  have hn2 : s.methodNamed? ⟨owner, x.name, x.desc⟩ = some mk := by rw [← hyx]; exact hnamed
  have hpm : ps2 = mk.cls := Option.some.inj (hps2.symm.trans (findClass_of_methodNamed hn2))
  have hsub : s.vm.isSubclass ps mk.cls = true := by
    have hsz : ∃ n, s.vm.classes.size = n + 1 := ⟨s.vm.classes.size - 1, by have := (Array.getElem?_eq_some_iff.mp hdk).1; omega⟩
    obtain ⟨n, hn⟩ := hsz
    rw [← hpm]
    unfold Vm.isSubclass
    rw [hn]
    simp [Vm.isSubclassAux, hdk2, hsuper2]
  intro T hT X1
  have hcT : T.heap[ad k]? = some cellB := by rw [hT]; exact hcB
  obtain ⟨vm₁, X₁, hstep₁⟩ := X1.invokespecialUp hx hown (hu _ l1) (hu _ l2) hn2 hmethM hstM habM hno hdk hnid hps hsuper hsub (a := ad k) (cell := cellB) hcT
    (fun z h => by rw [h] at hoB; cases hoB) hkB (g := F0 m pc ls st0) rfl (argsL := As) (rest := rest) (by
      have h9 := hd.2.2
      rw [hsigM] at h9
      rw [hn]
      exact (Option.some.inj h9).symm) hst (by rw [hb]; exact hdg)
  obtain ⟨v, B1, X', hpost, hsteps⟩ := hKb m meth c ⟨T.setVm vm₁, locs, cells, slots⟩ { (F0 m pc ls st0) with stack := rest } (.invokespecial index) mk (Value.ref (ad k) :: As).toArray X₁ rfl (hls.trans hml.symm) (by rw [hb]; exact hdg) (lv_room hW) (X₁.named hnamed) ⟨hf.1, hf.2, rfl, by show va_P _ _ _ (T.setVm vm₁).heap; rw [show (T.setVm vm₁).heap = H from hT]; exact hP, hD.weaken (fun _ _ _ _ => trivial), hK.warm X₁.warmed, hBU _ hT X₁.warmed⟩
  obtain ⟨U', l2', c2, s2⟩ := B1
  obtain ⟨g', mk', t, L', e1, e2, hq', e3, hL, e4, e5⟩ := hpost
  dsimp only [Pt.U, Pt.locs, Pt.cells, Pt.slots] at X' e1 e2 e3 e4 e5 hsteps
  subst e3; subst e4; subst e5
  exact ⟨v, (T.setVm vm₁).calling g' mk' (Value.ref (ad k) :: As).toArray, t, U', L', hT, X', hL, e1, e2, hq', fun tg hg => hstep₁ _ (by rw [doInvoke_state]; exact hsteps.trans hg)⟩
end SX
noncomputable def f_X3_says (G : Mem) (e0 : Nat) (x1 : Int32) : Int32 := (if 5 ≤ x1 then 0 else (if (f_X7_says G e0 x1) = 0 then 0 else 1))
theorem b_X3_says (G : Mem) (e0 : Nat) (x1 : Int32) : isB (f_X3_says G e0 x1) = true := by
  unfold f_X3_says
  first | (repeat' split) <;> rfl | (repeat' split) <;> first | rfl | exact (b_X7_says G e0 x1)
theorem kyX3_says : Ky yX3_says cX3_says 2 (some FieldType.boolean) 1 := ⟨u3_155, u1_19, by decide, by decide, by decide, by decide +kernel⟩
set_option maxHeartbeats 4000000 in
set_option maxRecDepth 100000 in
theorem c_X3_says (l : Launch) (D : va_G) (K : List Nat) (sh : Nat → Ent) (ad : Nat → Nat) (cy : Nat → ClassId) (X : va_W) (B : State → Prop) (hcl : Bcl (AS K ad X) B) (S : Nat → Nat) (e0 : Nat) (he0 : SgH S K sh e0) (G : Mem) (L : MemL) (O : MemO) (x1 : Int32)  {vz : Int32} (hf : f_X3_says G e0 x1 = vz) : Met l yX3_says (wsU yX3_says cX3_says 2 (some FieldType.boolean)) (rmX 2 0 0) (va_Pc [.ref (ad e0), .int x1] (PS D K sh ad cy X B G L O)) (QI (AS K ad X) (PH D K sh ad cy X G L O) vz) 0 0 (AS K ad X) := by
  refine s_met (by decide) (Nat.le_of_ble_eq_true rfl) ?_
  intro p e s m args below meth c ls H locs E hK hBs hnm hI hl
  have hl : lv_has ls 2 [(0, .ref (ad e0)), (1, .int x1)] := hl
  have E : Cx p s m args meth c RX3 cX3_says 2 (some FieldType.boolean) := E
  obtain ⟨hx, hb, hr, hml, hown, hu, hlocks⟩ := id E
  rw [f_X3_says] at hf
  refine lv_iload_n hx hb dX3_says_0 rfl (lv_at hl 1 rfl) ?_
  refine lv_iconst (v := 5) hx hb dX3_says_1 (by decide) ?_
  refine lv_icmp_ge (tgt := 17) hx hb dX3_says_2 (by decide) (fun c1 => ?_) (fun c1 => ?_)
  · have hf := ite_t c1 hf
    refine lv_iconst (v := 0) hx hb dX3_says_17 (by decide) ?_
    subst hf
    exact s_zret rfl hx hb hr hI.2.2 hI.1 hlocks dX3_says_18
  · have hf := ite_f c1 hf
    refine lv_aload_n hx hb dX3_says_5 rfl (lv_at hl 0 rfl) ?_
    refine lv_iload_n hx hb dX3_says_6 rfl (lv_at hl 1 rfl) ?_
    refine s_afI hI (s_runSUx (owner := RX7) (x := ⟨RX10, "says", "(I)Z"⟩) (rest := []) (As := [.int x1]) (np := 1) E hK hI (s_B hcl hBs hI) hcl.2 he0 (c_X7_says l D K sh ad cy X B hcl S e0 he0 G L O x1 rfl) kyX7_says (by decide) rfl u3_156 u3_157 u3_33 u3_23 u3_144 (by decide) rfl hl.1 rfl (Nat.le_of_ble_eq_true rfl) ⟨Nat.zero_le _, Nat.zero_le _⟩ dX3_says_7) (fun H locs hI => ?_)
    refine lv_if_eq (tgt := 17) hx hb dX3_says_10 (by decide) (fun c2 => ?_) (fun c2 => ?_)
    · have hf := ite_t c2 hf
      refine lv_iconst (v := 0) hx hb dX3_says_17 (by decide) ?_
      subst hf
      exact s_zret rfl hx hb hr hI.2.2 hI.1 hlocks dX3_says_18
    · have hf := ite_f c2 hf
      refine lv_iconst (v := 1) hx hb dX3_says_13 (by decide) ?_
      refine lv_goto (tgt := 18) hx hb dX3_says_14 (by decide) ?_
      subst hf
      exact s_zret rfl hx hb hr hI.2.2 hI.1 hlocks dX3_says_18
noncomputable def f_Dsays (G : Mem) (S : Nat → Nat) (e0 : Nat) (x1 : Int32) : Int32 := if S e0 = 0 then f_X0_says e0 x1 else if S e0 = 2 then f_X8_says e0 x1 else if S e0 = 3 then f_X3_says G e0 x1 else if S e0 = 7 then f_X7_says G e0 x1 else if S e0 = 8 then f_X8_says e0 x1 else f_X7_says G e0 x1
theorem b_Dsays (G : Mem) (S : Nat → Nat) (e0 : Nat) (x1 : Int32) : isB (f_Dsays G S e0 x1) = true := by
  unfold f_Dsays
  (repeat' split) <;> first | exact b_X0_says e0 x1 | exact b_X8_says e0 x1 | exact b_X3_says G e0 x1 | exact b_X7_says G e0 x1 | exact b_X8_says e0 x1 | exact b_X7_says G e0 x1
noncomputable def f_DcanHold (G : Mem) (S : Nat → Nat) (e0 : Nat) (x1 : Int32) (x2 : Int32) : Int32 := if S e0 = 0 then f_X7_canHold G S e0 x1 x2 else if S e0 = 2 then f_X7_canHold G S e0 x1 x2 else if S e0 = 3 then f_X7_canHold G S e0 x1 x2 else if S e0 = 7 then f_X7_canHold G S e0 x1 x2 else if S e0 = 8 then f_X7_canHold G S e0 x1 x2 else f_X7_canHold G S e0 x1 x2
set_option maxHeartbeats 4000000 in
theorem r_RX11_132 (l : Launch) (D : va_G) (K : List Nat) (sh : Nat → Ent) (ad : Nat → Nat) (cy : Nat → ClassId) (X : va_W) (B : State → Prop) (hcl : Bcl (AS K ad X) B) (S : Nat → Nat) (k : Nat) (hE : SgH S K sh k)  {p : Program} {e : Env} {s : State} {m : MethodId} {args : Array Value} {below : List Frame} {meth : Method} {c : Code} {H : Heap} {locs : List Loc} {cs ss nL pc lv' : Nat} {ls : Array Slot} {rest : List Value} {cc : ByteArray} {rt : Option FieldType} {A : Nat → Prop} {G : Mem} {L : MemL} {O : MemO} (E : Cx p s m args meth c RX11 cc nL rt) (hK : KS D cy s) (hI : IS D K sh ad cy X A s.heap H locs G L O) (hBU : ∀ U : State, U.heap = H → s.WarmedH U.vm → B U) (hlv : 1 + 1 ≤ lv') (hls : ls.size = nL) (hW : (rest.map fun v => v.category).sum ≤ 8) (hdg : decode cc pc = .ok (.invokevirtual 132, 3)) :
    va_Run p l e (rmX lv' cs ss) s m args below meth c H locs 0 0 0 0 (F0 m pc ls ([].reverse ++ .ref (ad k) :: rest)) rest (QI (AS K ad X) (PH D K sh ad cy X G L O) (f_Dkind S k) (Value.ref (ad k) :: []).toArray) (AS K ad X) := by
  obtain ⟨⟨h1, h2⟩, h3⟩ := id hE
  rcases sg_cases h3 with q | q | q | q | q | q
  · have hv : f_Dkind S k = f_X0_kind k := by simp only [f_Dkind, q, if_true, if_false, reduceIte, Nat.reduceEqDiff]
    rw [q] at h2
    exact s_runU (owner := RX7) (x := yX7_kind) (As := []) (rest := rest) (np := 0) E hK hI hBU hcl.2 ⟨h1, h2⟩ rfl (c_X0_kind l D K sh ad cy X B hcl S k hE G L O  hv.symm) (s_cwO E.2.2.2.2.2.1 kyX0_kind (show 1 + 1 ≤ lv' by omega) u3_68 u3_71 u3_69 u3_72 u3_73 u3_87 ⟨by decide, by decide, by decide +kernel⟩) rfl hls rfl hW ⟨Nat.zero_le _, Nat.zero_le _⟩ hdg
  · have hv : f_Dkind S k = f_X2_kind k := by simp only [f_Dkind, q, if_true, if_false, reduceIte, Nat.reduceEqDiff]
    rw [q] at h2
    exact s_runU (owner := RX7) (x := yX7_kind) (As := []) (rest := rest) (np := 0) E hK hI hBU hcl.2 ⟨h1, h2⟩ rfl (c_X2_kind l D K sh ad cy X B hcl S k hE G L O  hv.symm) (s_cwO E.2.2.2.2.2.1 kyX2_kind (show 1 + 1 ≤ lv' by omega) u3_68 u3_71 u3_69 u3_75 u3_76 u3_87 ⟨by decide, by decide, by decide +kernel⟩) rfl hls rfl hW ⟨Nat.zero_le _, Nat.zero_le _⟩ hdg
  · have hv : f_Dkind S k = f_X3_kind k := by simp only [f_Dkind, q, if_true, if_false, reduceIte, Nat.reduceEqDiff]
    rw [q] at h2
    exact s_runU (owner := RX7) (x := yX7_kind) (As := []) (rest := rest) (np := 0) E hK hI hBU hcl.2 ⟨h1, h2⟩ rfl (c_X3_kind l D K sh ad cy X B hcl S k hE G L O  hv.symm) (s_cwO E.2.2.2.2.2.1 kyX3_kind (show 1 + 1 ≤ lv' by omega) u3_68 u3_71 u3_69 u3_78 u3_79 u3_87 ⟨by decide, by decide, by decide +kernel⟩) rfl hls rfl hW ⟨Nat.zero_le _, Nat.zero_le _⟩ hdg
  · have hv : f_Dkind S k = f_X7_kind k := by simp only [f_Dkind, q, if_true, if_false, reduceIte, Nat.reduceEqDiff]
    rw [q] at h2
    exact s_runU (owner := RX7) (x := yX7_kind) (As := []) (rest := rest) (np := 0) E hK hI hBU hcl.2 ⟨h1, h2⟩ rfl (c_X7_kind l D K sh ad cy X B hcl S k hE G L O  hv.symm) (s_cwUi E.2.2.2.2.2.1 kyX7_kind (show 1 + 1 ≤ lv' by omega) u3_68 u3_71 u3_70 u3_69 rfl ⟨by decide, by decide, by decide +kernel⟩) rfl hls rfl hW ⟨Nat.zero_le _, Nat.zero_le _⟩ hdg
  · have hv : f_Dkind S k = f_X8_kind k := by simp only [f_Dkind, q, if_true, if_false, reduceIte, Nat.reduceEqDiff]
    rw [q] at h2
    exact s_runU (owner := RX7) (x := yX7_kind) (As := []) (rest := rest) (np := 0) E hK hI hBU hcl.2 ⟨h1, h2⟩ rfl (c_X8_kind l D K sh ad cy X B hcl S k hE G L O  hv.symm) (s_cwO E.2.2.2.2.2.1 kyX8_kind (show 1 + 1 ≤ lv' by omega) u3_68 u3_71 u3_69 u3_81 u3_82 u3_87 ⟨by decide, by decide, by decide +kernel⟩) rfl hls rfl hW ⟨Nat.zero_le _, Nat.zero_le _⟩ hdg
  · have hv : f_Dkind S k = f_X10_kind k := by simp only [f_Dkind, q, if_true, if_false, reduceIte, Nat.reduceEqDiff]
    rw [q] at h2
    exact s_runU (owner := RX7) (x := yX7_kind) (As := []) (rest := rest) (np := 0) E hK hI hBU hcl.2 ⟨h1, h2⟩ rfl (c_X10_kind l D K sh ad cy X B hcl S k hE G L O  hv.symm) (s_cwO E.2.2.2.2.2.1 kyX10_kind (show 1 + 1 ≤ lv' by omega) u3_68 u3_71 u3_69 u3_84 u3_85 u3_87 ⟨by decide, by decide, by decide +kernel⟩) rfl hls rfl hW ⟨Nat.zero_le _, Nat.zero_le _⟩ hdg
set_option maxHeartbeats 4000000 in
theorem r_RX11_135 (l : Launch) (D : va_G) (K : List Nat) (sh : Nat → Ent) (ad : Nat → Nat) (cy : Nat → ClassId) (X : va_W) (B : State → Prop) (hcl : Bcl (AS K ad X) B) (S : Nat → Nat) (k : Nat) (hE : SgH S K sh k) (x1 : Int32) (x2 : Int32) {p : Program} {e : Env} {s : State} {m : MethodId} {args : Array Value} {below : List Frame} {meth : Method} {c : Code} {H : Heap} {locs : List Loc} {cs ss nL pc lv' : Nat} {ls : Array Slot} {rest : List Value} {cc : ByteArray} {rt : Option FieldType} {A : Nat → Prop} {G : Mem} {L : MemL} {O : MemO} (E : Cx p s m args meth c RX11 cc nL rt) (hK : KS D cy s) (hI : IS D K sh ad cy X A s.heap H locs G L O) (hBU : ∀ U : State, U.heap = H → s.WarmedH U.vm → B U) (hlv : 4 + 1 ≤ lv') (hls : ls.size = nL) (hW : (rest.map fun v => v.category).sum ≤ 8) (hdg : decode cc pc = .ok (.invokevirtual 135, 3)) :
    va_Run p l e (rmX lv' cs ss) s m args below meth c H locs 0 0 0 0 (F0 m pc ls ([.int x1, .int x2].reverse ++ .ref (ad k) :: rest)) rest (QI (AS K ad X) (PH D K sh ad cy X G L O) (f_DcanHold G S k x1 x2) (Value.ref (ad k) :: [.int x1, .int x2]).toArray) (AS K ad X) := by
  obtain ⟨⟨h1, h2⟩, h3⟩ := id hE
  rcases sg_cases h3 with q | q | q | q | q | q
  · have hv : f_DcanHold G S k x1 x2 = f_X7_canHold G S k x1 x2 := by simp only [f_DcanHold, q, if_true, if_false, reduceIte, Nat.reduceEqDiff]
    rw [q] at h2
    exact s_runU (owner := RX7) (x := yX7_canHold) (As := [.int x1, .int x2]) (rest := rest) (np := 2) E hK hI hBU hcl.2 ⟨h1, h2⟩ rfl (c_X7_canHold l D K sh ad cy X B hcl S k hE G L O x1 x2 hv.symm) (s_cwUi E.2.2.2.2.2.1 kyX7_canHold (show 4 + 1 ≤ lv' by omega) u3_88 u3_91 u3_92 u3_89 rfl ⟨by decide, by decide, by decide +kernel⟩) rfl hls rfl hW ⟨Nat.zero_le _, Nat.zero_le _⟩ hdg
  · have hv : f_DcanHold G S k x1 x2 = f_X7_canHold G S k x1 x2 := by simp only [f_DcanHold, q, if_true, if_false, reduceIte, Nat.reduceEqDiff]
    rw [q] at h2
    exact s_runU (owner := RX7) (x := yX7_canHold) (As := [.int x1, .int x2]) (rest := rest) (np := 2) E hK hI hBU hcl.2 ⟨h1, h2⟩ rfl (c_X7_canHold l D K sh ad cy X B hcl S k hE G L O x1 x2 hv.symm) (s_cwUi E.2.2.2.2.2.1 kyX7_canHold (show 4 + 1 ≤ lv' by omega) u3_88 u3_91 u3_93 u3_89 rfl ⟨by decide, by decide, by decide +kernel⟩) rfl hls rfl hW ⟨Nat.zero_le _, Nat.zero_le _⟩ hdg
  · have hv : f_DcanHold G S k x1 x2 = f_X7_canHold G S k x1 x2 := by simp only [f_DcanHold, q, if_true, if_false, reduceIte, Nat.reduceEqDiff]
    rw [q] at h2
    exact s_runU (owner := RX7) (x := yX7_canHold) (As := [.int x1, .int x2]) (rest := rest) (np := 2) E hK hI hBU hcl.2 ⟨h1, h2⟩ rfl (c_X7_canHold l D K sh ad cy X B hcl S k hE G L O x1 x2 hv.symm) (s_cwUi E.2.2.2.2.2.1 kyX7_canHold (show 4 + 1 ≤ lv' by omega) u3_88 u3_91 u3_94 u3_89 rfl ⟨by decide, by decide, by decide +kernel⟩) rfl hls rfl hW ⟨Nat.zero_le _, Nat.zero_le _⟩ hdg
  · have hv : f_DcanHold G S k x1 x2 = f_X7_canHold G S k x1 x2 := by simp only [f_DcanHold, q, if_true, if_false, reduceIte, Nat.reduceEqDiff]
    rw [q] at h2
    exact s_runU (owner := RX7) (x := yX7_canHold) (As := [.int x1, .int x2]) (rest := rest) (np := 2) E hK hI hBU hcl.2 ⟨h1, h2⟩ rfl (c_X7_canHold l D K sh ad cy X B hcl S k hE G L O x1 x2 hv.symm) (s_cwUi E.2.2.2.2.2.1 kyX7_canHold (show 4 + 1 ≤ lv' by omega) u3_88 u3_91 u3_90 u3_89 rfl ⟨by decide, by decide, by decide +kernel⟩) rfl hls rfl hW ⟨Nat.zero_le _, Nat.zero_le _⟩ hdg
  · have hv : f_DcanHold G S k x1 x2 = f_X7_canHold G S k x1 x2 := by simp only [f_DcanHold, q, if_true, if_false, reduceIte, Nat.reduceEqDiff]
    rw [q] at h2
    exact s_runU (owner := RX7) (x := yX7_canHold) (As := [.int x1, .int x2]) (rest := rest) (np := 2) E hK hI hBU hcl.2 ⟨h1, h2⟩ rfl (c_X7_canHold l D K sh ad cy X B hcl S k hE G L O x1 x2 hv.symm) (s_cwUi E.2.2.2.2.2.1 kyX7_canHold (show 4 + 1 ≤ lv' by omega) u3_88 u3_91 u3_95 u3_89 rfl ⟨by decide, by decide, by decide +kernel⟩) rfl hls rfl hW ⟨Nat.zero_le _, Nat.zero_le _⟩ hdg
  · have hv : f_DcanHold G S k x1 x2 = f_X7_canHold G S k x1 x2 := by simp only [f_DcanHold, q, if_true, if_false, reduceIte, Nat.reduceEqDiff]
    rw [q] at h2
    exact s_runU (owner := RX7) (x := yX7_canHold) (As := [.int x1, .int x2]) (rest := rest) (np := 2) E hK hI hBU hcl.2 ⟨h1, h2⟩ rfl (c_X7_canHold l D K sh ad cy X B hcl S k hE G L O x1 x2 hv.symm) (s_cwUi E.2.2.2.2.2.1 kyX7_canHold (show 4 + 1 ≤ lv' by omega) u3_88 u3_91 u3_96 u3_89 rfl ⟨by decide, by decide, by decide +kernel⟩) rfl hls rfl hW ⟨Nat.zero_le _, Nat.zero_le _⟩ hdg
set_option maxHeartbeats 4000000 in
theorem r_RX11_139 (l : Launch) (D : va_G) (K : List Nat) (sh : Nat → Ent) (ad : Nat → Nat) (cy : Nat → ClassId) (X : va_W) (B : State → Prop) (hcl : Bcl (AS K ad X) B) (S : Nat → Nat) (k : Nat) (hE : SgH S K sh k) (x1 : Int32) {p : Program} {e : Env} {s : State} {m : MethodId} {args : Array Value} {below : List Frame} {meth : Method} {c : Code} {H : Heap} {locs : List Loc} {cs ss nL pc lv' : Nat} {ls : Array Slot} {rest : List Value} {cc : ByteArray} {rt : Option FieldType} {A : Nat → Prop} {G : Mem} {L : MemL} {O : MemO} (E : Cx p s m args meth c RX11 cc nL rt) (hK : KS D cy s) (hI : IS D K sh ad cy X A s.heap H locs G L O) (hBU : ∀ U : State, U.heap = H → s.WarmedH U.vm → B U) (hlv : 2 + 1 ≤ lv') (hls : ls.size = nL) (hW : (rest.map fun v => v.category).sum ≤ 8) (hdg : decode cc pc = .ok (.invokevirtual 139, 3)) :
    va_Run p l e (rmX lv' cs ss) s m args below meth c H locs 0 0 0 0 (F0 m pc ls ([.int x1].reverse ++ .ref (ad k) :: rest)) rest (QI (AS K ad X) (PH D K sh ad cy X G L O) (f_DsilentSteps G S k x1) (Value.ref (ad k) :: [.int x1]).toArray) (AS K ad X) := by
  obtain ⟨⟨h1, h2⟩, h3⟩ := id hE
  rcases sg_cases h3 with q | q | q | q | q | q
  · have hv : f_DsilentSteps G S k x1 = f_X0_silentSteps G k x1 := by simp only [f_DsilentSteps, q, if_true, if_false, reduceIte, Nat.reduceEqDiff]
    rw [q] at h2
    exact s_runU (owner := RX7) (x := yX7_silentSteps) (As := [.int x1]) (rest := rest) (np := 1) E hK hI hBU hcl.2 ⟨h1, h2⟩ rfl (c_X0_silentSteps l D K sh ad cy X B hcl S k hE G L O x1 hv.symm) (s_cwO E.2.2.2.2.2.1 kyX0_silentSteps (show 2 + 1 ≤ lv' by omega) u3_124 u3_127 u3_125 u3_128 u3_129 u3_142 ⟨by decide, by decide, by decide +kernel⟩) rfl hls rfl hW ⟨Nat.zero_le _, Nat.zero_le _⟩ hdg
  · have hv : f_DsilentSteps G S k x1 = f_X7_silentSteps G k x1 := by simp only [f_DsilentSteps, q, if_true, if_false, reduceIte, Nat.reduceEqDiff]
    rw [q] at h2
    exact s_runU (owner := RX7) (x := yX7_silentSteps) (As := [.int x1]) (rest := rest) (np := 1) E hK hI hBU hcl.2 ⟨h1, h2⟩ rfl (c_X7_silentSteps l D K sh ad cy X B hcl S k hE G L O x1 hv.symm) (s_cwUi E.2.2.2.2.2.1 kyX7_silentSteps (show 1 + 1 ≤ lv' by omega) u3_124 u3_127 u3_132 u3_125 rfl ⟨by decide, by decide, by decide +kernel⟩) rfl hls rfl hW ⟨Nat.zero_le _, Nat.zero_le _⟩ hdg
  · have hv : f_DsilentSteps G S k x1 = f_X10_silentSteps G k x1 := by simp only [f_DsilentSteps, q, if_true, if_false, reduceIte, Nat.reduceEqDiff]
    rw [q] at h2
    exact s_runU (owner := RX7) (x := yX7_silentSteps) (As := [.int x1]) (rest := rest) (np := 1) E hK hI hBU hcl.2 ⟨h1, h2⟩ rfl (c_X10_silentSteps l D K sh ad cy X B hcl S k hE G L O x1 hv.symm) (s_cwO E.2.2.2.2.2.1 kyX10_silentSteps (show 2 + 1 ≤ lv' by omega) u3_124 u3_127 u3_125 u3_133 u3_134 u3_142 ⟨by decide, by decide, by decide +kernel⟩) rfl hls rfl hW ⟨Nat.zero_le _, Nat.zero_le _⟩ hdg
  · have hv : f_DsilentSteps G S k x1 = f_X7_silentSteps G k x1 := by simp only [f_DsilentSteps, q, if_true, if_false, reduceIte, Nat.reduceEqDiff]
    rw [q] at h2
    exact s_runU (owner := RX7) (x := yX7_silentSteps) (As := [.int x1]) (rest := rest) (np := 1) E hK hI hBU hcl.2 ⟨h1, h2⟩ rfl (c_X7_silentSteps l D K sh ad cy X B hcl S k hE G L O x1 hv.symm) (s_cwUi E.2.2.2.2.2.1 kyX7_silentSteps (show 1 + 1 ≤ lv' by omega) u3_124 u3_127 u3_126 u3_125 rfl ⟨by decide, by decide, by decide +kernel⟩) rfl hls rfl hW ⟨Nat.zero_le _, Nat.zero_le _⟩ hdg
  · have hv : f_DsilentSteps G S k x1 = f_X7_silentSteps G k x1 := by simp only [f_DsilentSteps, q, if_true, if_false, reduceIte, Nat.reduceEqDiff]
    rw [q] at h2
    exact s_runU (owner := RX7) (x := yX7_silentSteps) (As := [.int x1]) (rest := rest) (np := 1) E hK hI hBU hcl.2 ⟨h1, h2⟩ rfl (c_X7_silentSteps l D K sh ad cy X B hcl S k hE G L O x1 hv.symm) (s_cwUi E.2.2.2.2.2.1 kyX7_silentSteps (show 1 + 1 ≤ lv' by omega) u3_124 u3_127 u3_140 u3_125 rfl ⟨by decide, by decide, by decide +kernel⟩) rfl hls rfl hW ⟨Nat.zero_le _, Nat.zero_le _⟩ hdg
  · have hv : f_DsilentSteps G S k x1 = f_X10_silentSteps G k x1 := by simp only [f_DsilentSteps, q, if_true, if_false, reduceIte, Nat.reduceEqDiff]
    rw [q] at h2
    exact s_runU (owner := RX7) (x := yX7_silentSteps) (As := [.int x1]) (rest := rest) (np := 1) E hK hI hBU hcl.2 ⟨h1, h2⟩ rfl (c_X10_silentSteps l D K sh ad cy X B hcl S k hE G L O x1 hv.symm) (s_cwO E.2.2.2.2.2.1 kyX10_silentSteps (show 2 + 1 ≤ lv' by omega) u3_124 u3_127 u3_125 u3_141 u3_134 u3_142 ⟨by decide, by decide, by decide +kernel⟩) rfl hls rfl hW ⟨Nat.zero_le _, Nat.zero_le _⟩ hdg
set_option maxHeartbeats 4000000 in
theorem r_RX11_143 (l : Launch) (D : va_G) (K : List Nat) (sh : Nat → Ent) (ad : Nat → Nat) (cy : Nat → ClassId) (X : va_W) (B : State → Prop) (hcl : Bcl (AS K ad X) B) (S : Nat → Nat) (k : Nat) (hE : SgH S K sh k) (x1 : Int32) {p : Program} {e : Env} {s : State} {m : MethodId} {args : Array Value} {below : List Frame} {meth : Method} {c : Code} {H : Heap} {locs : List Loc} {cs ss nL pc lv' : Nat} {ls : Array Slot} {rest : List Value} {cc : ByteArray} {rt : Option FieldType} {A : Nat → Prop} {G : Mem} {L : MemL} {O : MemO} (E : Cx p s m args meth c RX11 cc nL rt) (hK : KS D cy s) (hI : IS D K sh ad cy X A s.heap H locs G L O) (hBU : ∀ U : State, U.heap = H → s.WarmedH U.vm → B U) (hlv : 2 + 1 ≤ lv') (hls : ls.size = nL) (hW : (rest.map fun v => v.category).sum ≤ 8) (hdg : decode cc pc = .ok (.invokevirtual 143, 3)) :
    va_Run p l e (rmX lv' cs ss) s m args below meth c H locs 0 0 0 0 (F0 m pc ls ([.int x1].reverse ++ .ref (ad k) :: rest)) rest (QI (AS K ad X) (PH D K sh ad cy X G L O) (f_Dsays G S k x1) (Value.ref (ad k) :: [.int x1]).toArray) (AS K ad X) := by
  obtain ⟨⟨h1, h2⟩, h3⟩ := id hE
  rcases sg_cases h3 with q | q | q | q | q | q
  · have hv : f_Dsays G S k x1 = f_X0_says k x1 := by simp only [f_Dsays, q, if_true, if_false, reduceIte, Nat.reduceEqDiff]
    rw [q] at h2
    exact s_runU (owner := RX7) (x := yX7_says) (As := [.int x1]) (rest := rest) (np := 1) E hK hI hBU hcl.2 ⟨h1, h2⟩ rfl (c_X0_says l D K sh ad cy X B hcl S k hE G L O x1 hv.symm) (s_cwO E.2.2.2.2.2.1 kyX0_says (show 1 + 1 ≤ lv' by omega) u3_143 u3_146 u3_144 u3_147 u3_148 u3_161 ⟨by decide, by decide, by decide +kernel⟩) rfl hls rfl hW ⟨Nat.zero_le _, Nat.zero_le _⟩ hdg
  · have hv : f_Dsays G S k x1 = f_X8_says k x1 := by simp only [f_Dsays, q, if_true, if_false, reduceIte, Nat.reduceEqDiff]
    rw [q] at h2
    exact s_runU (owner := RX7) (x := yX7_says) (As := [.int x1]) (rest := rest) (np := 1) E hK hI hBU hcl.2 ⟨h1, h2⟩ rfl (c_X8_says l D K sh ad cy X B hcl S k hE G L O x1 hv.symm) (s_cwO E.2.2.2.2.2.1 kyX8_says (show 1 + 1 ≤ lv' by omega) u3_143 u3_146 u3_144 u3_150 u3_151 u3_161 ⟨by decide, by decide, by decide +kernel⟩) rfl hls rfl hW ⟨Nat.zero_le _, Nat.zero_le _⟩ hdg
  · have hv : f_Dsays G S k x1 = f_X3_says G k x1 := by simp only [f_Dsays, q, if_true, if_false, reduceIte, Nat.reduceEqDiff]
    rw [q] at h2
    exact s_runU (owner := RX7) (x := yX7_says) (As := [.int x1]) (rest := rest) (np := 1) E hK hI hBU hcl.2 ⟨h1, h2⟩ rfl (c_X3_says l D K sh ad cy X B hcl S k hE G L O x1 hv.symm) (s_cwO E.2.2.2.2.2.1 kyX3_says (show 2 + 1 ≤ lv' by omega) u3_143 u3_146 u3_144 u3_153 u3_154 u3_161 ⟨by decide, by decide, by decide +kernel⟩) rfl hls rfl hW ⟨Nat.zero_le _, Nat.zero_le _⟩ hdg
  · have hv : f_Dsays G S k x1 = f_X7_says G k x1 := by simp only [f_Dsays, q, if_true, if_false, reduceIte, Nat.reduceEqDiff]
    rw [q] at h2
    exact s_runU (owner := RX7) (x := yX7_says) (As := [.int x1]) (rest := rest) (np := 1) E hK hI hBU hcl.2 ⟨h1, h2⟩ rfl (c_X7_says l D K sh ad cy X B hcl S k hE G L O x1 hv.symm) (s_cwUi E.2.2.2.2.2.1 kyX7_says (show 1 + 1 ≤ lv' by omega) u3_143 u3_146 u3_145 u3_144 rfl ⟨by decide, by decide, by decide +kernel⟩) rfl hls rfl hW ⟨Nat.zero_le _, Nat.zero_le _⟩ hdg
  · have hv : f_Dsays G S k x1 = f_X8_says k x1 := by simp only [f_Dsays, q, if_true, if_false, reduceIte, Nat.reduceEqDiff]
    rw [q] at h2
    exact s_runU (owner := RX7) (x := yX7_says) (As := [.int x1]) (rest := rest) (np := 1) E hK hI hBU hcl.2 ⟨h1, h2⟩ rfl (c_X8_says l D K sh ad cy X B hcl S k hE G L O x1 hv.symm) (s_cwO E.2.2.2.2.2.1 kyX8_says (show 1 + 1 ≤ lv' by omega) u3_143 u3_146 u3_144 u3_159 u3_151 u3_161 ⟨by decide, by decide, by decide +kernel⟩) rfl hls rfl hW ⟨Nat.zero_le _, Nat.zero_le _⟩ hdg
  · have hv : f_Dsays G S k x1 = f_X7_says G k x1 := by simp only [f_Dsays, q, if_true, if_false, reduceIte, Nat.reduceEqDiff]
    rw [q] at h2
    exact s_runU (owner := RX7) (x := yX7_says) (As := [.int x1]) (rest := rest) (np := 1) E hK hI hBU hcl.2 ⟨h1, h2⟩ rfl (c_X7_says l D K sh ad cy X B hcl S k hE G L O x1 hv.symm) (s_cwUi E.2.2.2.2.2.1 kyX7_says (show 1 + 1 ≤ lv' by omega) u3_143 u3_146 u3_160 u3_144 rfl ⟨by decide, by decide, by decide +kernel⟩) rfl hls rfl hW ⟨Nat.zero_le _, Nat.zero_le _⟩ hdg
set_option maxHeartbeats 4000000 in
theorem r_RX11_251 (l : Launch) (D : va_G) (K : List Nat) (sh : Nat → Ent) (ad : Nat → Nat) (cy : Nat → ClassId) (X : va_W) (B : State → Prop) (hcl : Bcl (AS K ad X) B) (S : Nat → Nat) (k : Nat) (hE : SgH S K sh k) (x1 : Int32) {p : Program} {e : Env} {s : State} {m : MethodId} {args : Array Value} {below : List Frame} {meth : Method} {c : Code} {H : Heap} {locs : List Loc} {cs ss nL pc lv' : Nat} {ls : Array Slot} {rest : List Value} {cc : ByteArray} {rt : Option FieldType} {A : Nat → Prop} {G : Mem} {L : MemL} {O : MemO} (E : Cx p s m args meth c RX11 cc nL rt) (hK : KS D cy s) (hI : IS D K sh ad cy X A s.heap H locs G L O) (hBU : ∀ U : State, U.heap = H → s.WarmedH U.vm → B U) (hlv : 3 + 1 ≤ lv') (hls : ls.size = nL) (hW : (rest.map fun v => v.category).sum ≤ 8) (hdg : decode cc pc = .ok (.invokevirtual 251, 3)) :
    va_Run p l e (rmX lv' cs ss) s m args below meth c H locs 0 0 0 0 (F0 m pc ls ([.int x1].reverse ++ .ref (ad k) :: rest)) rest (QI (AS K ad X) (PH D K sh ad cy X G L O) (f_DisUnder S k x1) (Value.ref (ad k) :: [.int x1]).toArray) (AS K ad X) := by
  obtain ⟨⟨h1, h2⟩, h3⟩ := id hE
  rcases sg_cases h3 with q | q | q | q | q | q
  · have hv : f_DisUnder S k x1 = f_X0_isUnder k x1 := by simp only [f_DisUnder, q, if_true, if_false, reduceIte, Nat.reduceEqDiff]
    rw [q] at h2
    exact s_runU (owner := RX7) (x := yX7_isUnder) (As := [.int x1]) (rest := rest) (np := 1) E hK hI hBU hcl.2 ⟨h1, h2⟩ rfl (c_X0_isUnder l D K sh ad cy X B hcl S k hE G L O x1 hv.symm) (s_cwO E.2.2.2.2.2.1 kyX0_isUnder (show 2 + 1 ≤ lv' by omega) u4_158 u4_161 u4_159 u4_162 u4_163 u4_182 ⟨by decide, by decide, by decide +kernel⟩) rfl hls rfl hW ⟨Nat.zero_le _, Nat.zero_le _⟩ hdg
  · have hv : f_DisUnder S k x1 = f_X2_isUnder k x1 := by simp only [f_DisUnder, q, if_true, if_false, reduceIte, Nat.reduceEqDiff]
    rw [q] at h2
    exact s_runU (owner := RX7) (x := yX7_isUnder) (As := [.int x1]) (rest := rest) (np := 1) E hK hI hBU hcl.2 ⟨h1, h2⟩ rfl (c_X2_isUnder l D K sh ad cy X B hcl S k hE G L O x1 hv.symm) (s_cwO E.2.2.2.2.2.1 kyX2_isUnder (show 3 + 1 ≤ lv' by omega) u4_158 u4_161 u4_159 u4_166 u4_167 u4_182 ⟨by decide, by decide, by decide +kernel⟩) rfl hls rfl hW ⟨Nat.zero_le _, Nat.zero_le _⟩ hdg
  · have hv : f_DisUnder S k x1 = f_X3_isUnder k x1 := by simp only [f_DisUnder, q, if_true, if_false, reduceIte, Nat.reduceEqDiff]
    rw [q] at h2
    exact s_runU (owner := RX7) (x := yX7_isUnder) (As := [.int x1]) (rest := rest) (np := 1) E hK hI hBU hcl.2 ⟨h1, h2⟩ rfl (c_X3_isUnder l D K sh ad cy X B hcl S k hE G L O x1 hv.symm) (s_cwO E.2.2.2.2.2.1 kyX3_isUnder (show 3 + 1 ≤ lv' by omega) u4_158 u4_161 u4_159 u4_173 u4_174 u4_182 ⟨by decide, by decide, by decide +kernel⟩) rfl hls rfl hW ⟨Nat.zero_le _, Nat.zero_le _⟩ hdg
  · have hv : f_DisUnder S k x1 = f_X7_isUnder k x1 := by simp only [f_DisUnder, q, if_true, if_false, reduceIte, Nat.reduceEqDiff]
    rw [q] at h2
    exact s_runU (owner := RX7) (x := yX7_isUnder) (As := [.int x1]) (rest := rest) (np := 1) E hK hI hBU hcl.2 ⟨h1, h2⟩ rfl (c_X7_isUnder l D K sh ad cy X B hcl S k hE G L O x1 hv.symm) (s_cwUi E.2.2.2.2.2.1 kyX7_isUnder (show 1 + 1 ≤ lv' by omega) u4_158 u4_161 u4_160 u4_159 rfl ⟨by decide, by decide, by decide +kernel⟩) rfl hls rfl hW ⟨Nat.zero_le _, Nat.zero_le _⟩ hdg
  · have hv : f_DisUnder S k x1 = f_X8_isUnder k x1 := by simp only [f_DisUnder, q, if_true, if_false, reduceIte, Nat.reduceEqDiff]
    rw [q] at h2
    exact s_runU (owner := RX7) (x := yX7_isUnder) (As := [.int x1]) (rest := rest) (np := 1) E hK hI hBU hcl.2 ⟨h1, h2⟩ rfl (c_X8_isUnder l D K sh ad cy X B hcl S k hE G L O x1 hv.symm) (s_cwO E.2.2.2.2.2.1 kyX8_isUnder (show 2 + 1 ≤ lv' by omega) u4_158 u4_161 u4_159 u4_180 u4_170 u4_182 ⟨by decide, by decide, by decide +kernel⟩) rfl hls rfl hW ⟨Nat.zero_le _, Nat.zero_le _⟩ hdg
  · have hv : f_DisUnder S k x1 = f_X10_isUnder k x1 := by simp only [f_DisUnder, q, if_true, if_false, reduceIte, Nat.reduceEqDiff]
    rw [q] at h2
    exact s_runU (owner := RX7) (x := yX7_isUnder) (As := [.int x1]) (rest := rest) (np := 1) E hK hI hBU hcl.2 ⟨h1, h2⟩ rfl (c_X10_isUnder l D K sh ad cy X B hcl S k hE G L O x1 hv.symm) (s_cwO E.2.2.2.2.2.1 kyX10_isUnder (show 2 + 1 ≤ lv' by omega) u4_158 u4_161 u4_159 u4_181 u4_177 u4_182 ⟨by decide, by decide, by decide +kernel⟩) rfl hls rfl hW ⟨Nat.zero_le _, Nat.zero_le _⟩ hdg
set_option maxHeartbeats 4000000 in
theorem r_RX1_97 (l : Launch) (D : va_G) (K : List Nat) (sh : Nat → Ent) (ad : Nat → Nat) (cy : Nat → ClassId) (X : va_W) (B : State → Prop) (hcl : Bcl (AS K ad X) B) (S : Nat → Nat) (k : Nat) (hE : SgH S K sh k) (x1 : Int32) {p : Program} {e : Env} {s : State} {m : MethodId} {args : Array Value} {below : List Frame} {meth : Method} {c : Code} {H : Heap} {locs : List Loc} {cs ss nL pc lv' : Nat} {ls : Array Slot} {rest : List Value} {cc : ByteArray} {rt : Option FieldType} {A : Nat → Prop} {G : Mem} {L : MemL} {O : MemO} (E : Cx p s m args meth c RX1 cc nL rt) (hK : KS D cy s) (hI : IS D K sh ad cy X A s.heap H locs G L O) (hBU : ∀ U : State, U.heap = H → s.WarmedH U.vm → B U) (hlv : 2 + 1 ≤ lv') (hls : ls.size = nL) (hW : (rest.map fun v => v.category).sum ≤ 8) (hdg : decode cc pc = .ok (.invokevirtual 97, 3)) :
    va_Run p l e (rmX lv' cs ss) s m args below meth c H locs 0 0 0 0 (F0 m pc ls ([.int x1].reverse ++ .ref (ad k) :: rest)) rest (QI (AS K ad X) (PH D K sh ad cy X G L O) (f_DsilentSteps G S k x1) (Value.ref (ad k) :: [.int x1]).toArray) (AS K ad X) := by
  obtain ⟨⟨h1, h2⟩, h3⟩ := id hE
  rcases sg_cases h3 with q | q | q | q | q | q
  · have hv : f_DsilentSteps G S k x1 = f_X0_silentSteps G k x1 := by simp only [f_DsilentSteps, q, if_true, if_false, reduceIte, Nat.reduceEqDiff]
    rw [q] at h2
    exact s_runU (owner := RX7) (x := yX7_silentSteps) (As := [.int x1]) (rest := rest) (np := 1) E hK hI hBU hcl.2 ⟨h1, h2⟩ rfl (c_X0_silentSteps l D K sh ad cy X B hcl S k hE G L O x1 hv.symm) (s_cwO E.2.2.2.2.2.1 kyX0_silentSteps (show 2 + 1 ≤ lv' by omega) u4_14 u3_127 u3_125 u3_128 u3_129 u3_142 ⟨by decide, by decide, by decide +kernel⟩) rfl hls rfl hW ⟨Nat.zero_le _, Nat.zero_le _⟩ hdg
  · have hv : f_DsilentSteps G S k x1 = f_X7_silentSteps G k x1 := by simp only [f_DsilentSteps, q, if_true, if_false, reduceIte, Nat.reduceEqDiff]
    rw [q] at h2
    exact s_runU (owner := RX7) (x := yX7_silentSteps) (As := [.int x1]) (rest := rest) (np := 1) E hK hI hBU hcl.2 ⟨h1, h2⟩ rfl (c_X7_silentSteps l D K sh ad cy X B hcl S k hE G L O x1 hv.symm) (s_cwUi E.2.2.2.2.2.1 kyX7_silentSteps (show 1 + 1 ≤ lv' by omega) u4_14 u3_127 u3_132 u3_125 rfl ⟨by decide, by decide, by decide +kernel⟩) rfl hls rfl hW ⟨Nat.zero_le _, Nat.zero_le _⟩ hdg
  · have hv : f_DsilentSteps G S k x1 = f_X10_silentSteps G k x1 := by simp only [f_DsilentSteps, q, if_true, if_false, reduceIte, Nat.reduceEqDiff]
    rw [q] at h2
    exact s_runU (owner := RX7) (x := yX7_silentSteps) (As := [.int x1]) (rest := rest) (np := 1) E hK hI hBU hcl.2 ⟨h1, h2⟩ rfl (c_X10_silentSteps l D K sh ad cy X B hcl S k hE G L O x1 hv.symm) (s_cwO E.2.2.2.2.2.1 kyX10_silentSteps (show 2 + 1 ≤ lv' by omega) u4_14 u3_127 u3_125 u3_133 u3_134 u3_142 ⟨by decide, by decide, by decide +kernel⟩) rfl hls rfl hW ⟨Nat.zero_le _, Nat.zero_le _⟩ hdg
  · have hv : f_DsilentSteps G S k x1 = f_X7_silentSteps G k x1 := by simp only [f_DsilentSteps, q, if_true, if_false, reduceIte, Nat.reduceEqDiff]
    rw [q] at h2
    exact s_runU (owner := RX7) (x := yX7_silentSteps) (As := [.int x1]) (rest := rest) (np := 1) E hK hI hBU hcl.2 ⟨h1, h2⟩ rfl (c_X7_silentSteps l D K sh ad cy X B hcl S k hE G L O x1 hv.symm) (s_cwUi E.2.2.2.2.2.1 kyX7_silentSteps (show 1 + 1 ≤ lv' by omega) u4_14 u3_127 u3_126 u3_125 rfl ⟨by decide, by decide, by decide +kernel⟩) rfl hls rfl hW ⟨Nat.zero_le _, Nat.zero_le _⟩ hdg
  · have hv : f_DsilentSteps G S k x1 = f_X7_silentSteps G k x1 := by simp only [f_DsilentSteps, q, if_true, if_false, reduceIte, Nat.reduceEqDiff]
    rw [q] at h2
    exact s_runU (owner := RX7) (x := yX7_silentSteps) (As := [.int x1]) (rest := rest) (np := 1) E hK hI hBU hcl.2 ⟨h1, h2⟩ rfl (c_X7_silentSteps l D K sh ad cy X B hcl S k hE G L O x1 hv.symm) (s_cwUi E.2.2.2.2.2.1 kyX7_silentSteps (show 1 + 1 ≤ lv' by omega) u4_14 u3_127 u3_140 u3_125 rfl ⟨by decide, by decide, by decide +kernel⟩) rfl hls rfl hW ⟨Nat.zero_le _, Nat.zero_le _⟩ hdg
  · have hv : f_DsilentSteps G S k x1 = f_X10_silentSteps G k x1 := by simp only [f_DsilentSteps, q, if_true, if_false, reduceIte, Nat.reduceEqDiff]
    rw [q] at h2
    exact s_runU (owner := RX7) (x := yX7_silentSteps) (As := [.int x1]) (rest := rest) (np := 1) E hK hI hBU hcl.2 ⟨h1, h2⟩ rfl (c_X10_silentSteps l D K sh ad cy X B hcl S k hE G L O x1 hv.symm) (s_cwO E.2.2.2.2.2.1 kyX10_silentSteps (show 2 + 1 ≤ lv' by omega) u4_14 u3_127 u3_125 u3_141 u3_134 u3_142 ⟨by decide, by decide, by decide +kernel⟩) rfl hls rfl hW ⟨Nat.zero_le _, Nat.zero_le _⟩ hdg
set_option maxHeartbeats 4000000 in
theorem r_RX1_118 (l : Launch) (D : va_G) (K : List Nat) (sh : Nat → Ent) (ad : Nat → Nat) (cy : Nat → ClassId) (X : va_W) (B : State → Prop) (hcl : Bcl (AS K ad X) B) (S : Nat → Nat) (k : Nat) (hE : SgH S K sh k) (x1 : Int32) (x2 : Int32) {p : Program} {e : Env} {s : State} {m : MethodId} {args : Array Value} {below : List Frame} {meth : Method} {c : Code} {H : Heap} {locs : List Loc} {cs ss nL pc lv' : Nat} {ls : Array Slot} {rest : List Value} {cc : ByteArray} {rt : Option FieldType} {A : Nat → Prop} {G : Mem} {L : MemL} {O : MemO} (E : Cx p s m args meth c RX1 cc nL rt) (hK : KS D cy s) (hI : IS D K sh ad cy X A s.heap H locs G L O) (hBU : ∀ U : State, U.heap = H → s.WarmedH U.vm → B U) (hlv : 4 + 1 ≤ lv') (hls : ls.size = nL) (hW : (rest.map fun v => v.category).sum ≤ 8) (hdg : decode cc pc = .ok (.invokevirtual 118, 3)) :
    va_Run p l e (rmX lv' cs ss) s m args below meth c H locs 0 0 0 0 (F0 m pc ls ([.int x1, .int x2].reverse ++ .ref (ad k) :: rest)) rest (QI (AS K ad X) (PH D K sh ad cy X G L O) (f_DcanHold G S k x1 x2) (Value.ref (ad k) :: [.int x1, .int x2]).toArray) (AS K ad X) := by
  obtain ⟨⟨h1, h2⟩, h3⟩ := id hE
  rcases sg_cases h3 with q | q | q | q | q | q
  · have hv : f_DcanHold G S k x1 x2 = f_X7_canHold G S k x1 x2 := by simp only [f_DcanHold, q, if_true, if_false, reduceIte, Nat.reduceEqDiff]
    rw [q] at h2
    exact s_runU (owner := RX7) (x := yX7_canHold) (As := [.int x1, .int x2]) (rest := rest) (np := 2) E hK hI hBU hcl.2 ⟨h1, h2⟩ rfl (c_X7_canHold l D K sh ad cy X B hcl S k hE G L O x1 x2 hv.symm) (s_cwUi E.2.2.2.2.2.1 kyX7_canHold (show 4 + 1 ≤ lv' by omega) u3_225 u3_91 u3_92 u3_89 rfl ⟨by decide, by decide, by decide +kernel⟩) rfl hls rfl hW ⟨Nat.zero_le _, Nat.zero_le _⟩ hdg
  · have hv : f_DcanHold G S k x1 x2 = f_X7_canHold G S k x1 x2 := by simp only [f_DcanHold, q, if_true, if_false, reduceIte, Nat.reduceEqDiff]
    rw [q] at h2
    exact s_runU (owner := RX7) (x := yX7_canHold) (As := [.int x1, .int x2]) (rest := rest) (np := 2) E hK hI hBU hcl.2 ⟨h1, h2⟩ rfl (c_X7_canHold l D K sh ad cy X B hcl S k hE G L O x1 x2 hv.symm) (s_cwUi E.2.2.2.2.2.1 kyX7_canHold (show 4 + 1 ≤ lv' by omega) u3_225 u3_91 u3_93 u3_89 rfl ⟨by decide, by decide, by decide +kernel⟩) rfl hls rfl hW ⟨Nat.zero_le _, Nat.zero_le _⟩ hdg
  · have hv : f_DcanHold G S k x1 x2 = f_X7_canHold G S k x1 x2 := by simp only [f_DcanHold, q, if_true, if_false, reduceIte, Nat.reduceEqDiff]
    rw [q] at h2
    exact s_runU (owner := RX7) (x := yX7_canHold) (As := [.int x1, .int x2]) (rest := rest) (np := 2) E hK hI hBU hcl.2 ⟨h1, h2⟩ rfl (c_X7_canHold l D K sh ad cy X B hcl S k hE G L O x1 x2 hv.symm) (s_cwUi E.2.2.2.2.2.1 kyX7_canHold (show 4 + 1 ≤ lv' by omega) u3_225 u3_91 u3_94 u3_89 rfl ⟨by decide, by decide, by decide +kernel⟩) rfl hls rfl hW ⟨Nat.zero_le _, Nat.zero_le _⟩ hdg
  · have hv : f_DcanHold G S k x1 x2 = f_X7_canHold G S k x1 x2 := by simp only [f_DcanHold, q, if_true, if_false, reduceIte, Nat.reduceEqDiff]
    rw [q] at h2
    exact s_runU (owner := RX7) (x := yX7_canHold) (As := [.int x1, .int x2]) (rest := rest) (np := 2) E hK hI hBU hcl.2 ⟨h1, h2⟩ rfl (c_X7_canHold l D K sh ad cy X B hcl S k hE G L O x1 x2 hv.symm) (s_cwUi E.2.2.2.2.2.1 kyX7_canHold (show 4 + 1 ≤ lv' by omega) u3_225 u3_91 u3_90 u3_89 rfl ⟨by decide, by decide, by decide +kernel⟩) rfl hls rfl hW ⟨Nat.zero_le _, Nat.zero_le _⟩ hdg
  · have hv : f_DcanHold G S k x1 x2 = f_X7_canHold G S k x1 x2 := by simp only [f_DcanHold, q, if_true, if_false, reduceIte, Nat.reduceEqDiff]
    rw [q] at h2
    exact s_runU (owner := RX7) (x := yX7_canHold) (As := [.int x1, .int x2]) (rest := rest) (np := 2) E hK hI hBU hcl.2 ⟨h1, h2⟩ rfl (c_X7_canHold l D K sh ad cy X B hcl S k hE G L O x1 x2 hv.symm) (s_cwUi E.2.2.2.2.2.1 kyX7_canHold (show 4 + 1 ≤ lv' by omega) u3_225 u3_91 u3_95 u3_89 rfl ⟨by decide, by decide, by decide +kernel⟩) rfl hls rfl hW ⟨Nat.zero_le _, Nat.zero_le _⟩ hdg
  · have hv : f_DcanHold G S k x1 x2 = f_X7_canHold G S k x1 x2 := by simp only [f_DcanHold, q, if_true, if_false, reduceIte, Nat.reduceEqDiff]
    rw [q] at h2
    exact s_runU (owner := RX7) (x := yX7_canHold) (As := [.int x1, .int x2]) (rest := rest) (np := 2) E hK hI hBU hcl.2 ⟨h1, h2⟩ rfl (c_X7_canHold l D K sh ad cy X B hcl S k hE G L O x1 x2 hv.symm) (s_cwUi E.2.2.2.2.2.1 kyX7_canHold (show 4 + 1 ≤ lv' by omega) u3_225 u3_91 u3_96 u3_89 rfl ⟨by decide, by decide, by decide +kernel⟩) rfl hls rfl hW ⟨Nat.zero_le _, Nat.zero_le _⟩ hdg
set_option maxHeartbeats 4000000 in
theorem r_RX1_166 (l : Launch) (D : va_G) (K : List Nat) (sh : Nat → Ent) (ad : Nat → Nat) (cy : Nat → ClassId) (X : va_W) (B : State → Prop) (hcl : Bcl (AS K ad X) B) (S : Nat → Nat) (k : Nat) (hE : SgH S K sh k) (x1 : Int32) {p : Program} {e : Env} {s : State} {m : MethodId} {args : Array Value} {below : List Frame} {meth : Method} {c : Code} {H : Heap} {locs : List Loc} {cs ss nL pc lv' : Nat} {ls : Array Slot} {rest : List Value} {cc : ByteArray} {rt : Option FieldType} {A : Nat → Prop} {G : Mem} {L : MemL} {O : MemO} (E : Cx p s m args meth c RX1 cc nL rt) (hK : KS D cy s) (hI : IS D K sh ad cy X A s.heap H locs G L O) (hBU : ∀ U : State, U.heap = H → s.WarmedH U.vm → B U) (hlv : 2 + 1 ≤ lv') (hls : ls.size = nL) (hW : (rest.map fun v => v.category).sum ≤ 8) (hdg : decode cc pc = .ok (.invokevirtual 166, 3)) :
    va_Run p l e (rmX lv' cs ss) s m args below meth c H locs 0 0 0 0 (F0 m pc ls ([.int x1].reverse ++ .ref (ad k) :: rest)) rest (QI (AS K ad X) (PH D K sh ad cy X G L O) (f_Dsays G S k x1) (Value.ref (ad k) :: [.int x1]).toArray) (AS K ad X) := by
  obtain ⟨⟨h1, h2⟩, h3⟩ := id hE
  rcases sg_cases h3 with q | q | q | q | q | q
  · have hv : f_Dsays G S k x1 = f_X0_says k x1 := by simp only [f_Dsays, q, if_true, if_false, reduceIte, Nat.reduceEqDiff]
    rw [q] at h2
    exact s_runU (owner := RX7) (x := yX7_says) (As := [.int x1]) (rest := rest) (np := 1) E hK hI hBU hcl.2 ⟨h1, h2⟩ rfl (c_X0_says l D K sh ad cy X B hcl S k hE G L O x1 hv.symm) (s_cwO E.2.2.2.2.2.1 kyX0_says (show 1 + 1 ≤ lv' by omega) u4_40 u3_146 u3_144 u3_147 u3_148 u3_161 ⟨by decide, by decide, by decide +kernel⟩) rfl hls rfl hW ⟨Nat.zero_le _, Nat.zero_le _⟩ hdg
  · have hv : f_Dsays G S k x1 = f_X8_says k x1 := by simp only [f_Dsays, q, if_true, if_false, reduceIte, Nat.reduceEqDiff]
    rw [q] at h2
    exact s_runU (owner := RX7) (x := yX7_says) (As := [.int x1]) (rest := rest) (np := 1) E hK hI hBU hcl.2 ⟨h1, h2⟩ rfl (c_X8_says l D K sh ad cy X B hcl S k hE G L O x1 hv.symm) (s_cwO E.2.2.2.2.2.1 kyX8_says (show 1 + 1 ≤ lv' by omega) u4_40 u3_146 u3_144 u3_150 u3_151 u3_161 ⟨by decide, by decide, by decide +kernel⟩) rfl hls rfl hW ⟨Nat.zero_le _, Nat.zero_le _⟩ hdg
  · have hv : f_Dsays G S k x1 = f_X3_says G k x1 := by simp only [f_Dsays, q, if_true, if_false, reduceIte, Nat.reduceEqDiff]
    rw [q] at h2
    exact s_runU (owner := RX7) (x := yX7_says) (As := [.int x1]) (rest := rest) (np := 1) E hK hI hBU hcl.2 ⟨h1, h2⟩ rfl (c_X3_says l D K sh ad cy X B hcl S k hE G L O x1 hv.symm) (s_cwO E.2.2.2.2.2.1 kyX3_says (show 2 + 1 ≤ lv' by omega) u4_40 u3_146 u3_144 u3_153 u3_154 u3_161 ⟨by decide, by decide, by decide +kernel⟩) rfl hls rfl hW ⟨Nat.zero_le _, Nat.zero_le _⟩ hdg
  · have hv : f_Dsays G S k x1 = f_X7_says G k x1 := by simp only [f_Dsays, q, if_true, if_false, reduceIte, Nat.reduceEqDiff]
    rw [q] at h2
    exact s_runU (owner := RX7) (x := yX7_says) (As := [.int x1]) (rest := rest) (np := 1) E hK hI hBU hcl.2 ⟨h1, h2⟩ rfl (c_X7_says l D K sh ad cy X B hcl S k hE G L O x1 hv.symm) (s_cwUi E.2.2.2.2.2.1 kyX7_says (show 1 + 1 ≤ lv' by omega) u4_40 u3_146 u3_145 u3_144 rfl ⟨by decide, by decide, by decide +kernel⟩) rfl hls rfl hW ⟨Nat.zero_le _, Nat.zero_le _⟩ hdg
  · have hv : f_Dsays G S k x1 = f_X8_says k x1 := by simp only [f_Dsays, q, if_true, if_false, reduceIte, Nat.reduceEqDiff]
    rw [q] at h2
    exact s_runU (owner := RX7) (x := yX7_says) (As := [.int x1]) (rest := rest) (np := 1) E hK hI hBU hcl.2 ⟨h1, h2⟩ rfl (c_X8_says l D K sh ad cy X B hcl S k hE G L O x1 hv.symm) (s_cwO E.2.2.2.2.2.1 kyX8_says (show 1 + 1 ≤ lv' by omega) u4_40 u3_146 u3_144 u3_159 u3_151 u3_161 ⟨by decide, by decide, by decide +kernel⟩) rfl hls rfl hW ⟨Nat.zero_le _, Nat.zero_le _⟩ hdg
  · have hv : f_Dsays G S k x1 = f_X7_says G k x1 := by simp only [f_Dsays, q, if_true, if_false, reduceIte, Nat.reduceEqDiff]
    rw [q] at h2
    exact s_runU (owner := RX7) (x := yX7_says) (As := [.int x1]) (rest := rest) (np := 1) E hK hI hBU hcl.2 ⟨h1, h2⟩ rfl (c_X7_says l D K sh ad cy X B hcl S k hE G L O x1 hv.symm) (s_cwUi E.2.2.2.2.2.1 kyX7_says (show 1 + 1 ≤ lv' by omega) u4_40 u3_146 u3_160 u3_144 rfl ⟨by decide, by decide, by decide +kernel⟩) rfl hls rfl hW ⟨Nat.zero_le _, Nat.zero_le _⟩ hdg
noncomputable def f_J6_bitCount_0f7a4  (x0 : Int32) : Int32 := bnd (x0 - (((x0.toUInt32 >>> ((1 : Int32).toUInt32 &&& Int32.toUInt32 31)).toInt32) &&& 1431655765)) (fun x0_1 => bnd ((x0_1 &&& 858993459) + (((x0_1.toUInt32 >>> ((2 : Int32).toUInt32 &&& Int32.toUInt32 31)).toInt32) &&& 858993459)) (fun x0_2 => bnd ((x0_2 + ((x0_2.toUInt32 >>> ((4 : Int32).toUInt32 &&& Int32.toUInt32 31)).toInt32)) &&& 252645135) (fun x0_3 => bnd (x0_3 + ((x0_3.toUInt32 >>> ((8 : Int32).toUInt32 &&& Int32.toUInt32 31)).toInt32)) (fun x0_4 => bnd (x0_4 + ((x0_4.toUInt32 >>> ((16 : Int32).toUInt32 &&& Int32.toUInt32 31)).toInt32)) (fun x0_5 => (x0_5 &&& 63))))))
theorem kyJ6_bitCount_0f7a4 : Ky yJ6_bitCount_0f7a4 cJ6_bitCount_0f7a4 1 (some FieldType.int) 1 := ⟨u3_232, u1_22, by decide, by decide, by decide, by decide +kernel⟩
set_option maxHeartbeats 4000000 in
set_option maxRecDepth 100000 in
theorem c_J6_bitCount_0f7a4 (l : Launch) (x0 : Int32)  {vz : Int32} (hf : f_J6_bitCount_0f7a4 x0 = vz) : Met l yJ6_bitCount_0f7a4 (wsU yJ6_bitCount_0f7a4 cJ6_bitCount_0f7a4 1 (some FieldType.int)) (rmX 1 0 0) (va_Pc [.int x0] (fun _ => True)) (QP vz) 0 0 noA := by
  refine s_met0 (by decide) (Nat.le_of_ble_eq_true rfl) ?_
  intro p e s m args below meth c ls E hl
  have hl : lv_has ls 1 [(0, .int x0)] := hl
  have E : Cx p s m args meth c RJ6 cJ6_bitCount_0f7a4 1 (some FieldType.int) := E
  obtain ⟨hx, hb, hr, hml, hown, hu, hlocks⟩ := id E
  rw [f_J6_bitCount_0f7a4] at hf
  refine lv_iload_n hx hb dJ6_bitCount_0f7a4_0 rfl (lv_at hl 0 rfl) ?_
  refine lv_iload_n hx hb dJ6_bitCount_0f7a4_1 rfl (lv_at hl 0 rfl) ?_
  refine lv_iconst (v := 1) hx hb dJ6_bitCount_0f7a4_2 (by decide) ?_
  refine lv_iushr (v := (x0.toUInt32 >>> ((1 : Int32).toUInt32 &&& Int32.toUInt32 31)).toInt32) hx hb dJ6_bitCount_0f7a4_3 rfl ?_
  refine lv_ldcw (v := 1431655765) hx hb hown (hu _ u3_233) dJ6_bitCount_0f7a4_4 ?_
  refine lv_iand hx hb dJ6_bitCount_0f7a4_7 ?_
  refine lv_isub hx hb dJ6_bitCount_0f7a4_8 ?_
  obtain ⟨x0_1, ex0_1, hf⟩ := bnd_i hf
  refine s_nmI ex0_1 ?_
  refine lv_istore_n (lv' := [(0, .int x0_1)]) hx hb dJ6_bitCount_0f7a4_9 rfl hl (by decide) rfl (fun ls hl => ?_)
  refine lv_iload_n hx hb dJ6_bitCount_0f7a4_10 rfl (lv_at hl 0 rfl) ?_
  refine lv_ldcw (v := 858993459) hx hb hown (hu _ u3_234) dJ6_bitCount_0f7a4_11 ?_
  refine lv_iand hx hb dJ6_bitCount_0f7a4_14 ?_
  refine lv_iload_n hx hb dJ6_bitCount_0f7a4_15 rfl (lv_at hl 0 rfl) ?_
  refine lv_iconst (v := 2) hx hb dJ6_bitCount_0f7a4_16 (by decide) ?_
  refine lv_iushr (v := (x0_1.toUInt32 >>> ((2 : Int32).toUInt32 &&& Int32.toUInt32 31)).toInt32) hx hb dJ6_bitCount_0f7a4_17 rfl ?_
  refine lv_ldcw (v := 858993459) hx hb hown (hu _ u3_234) dJ6_bitCount_0f7a4_18 ?_
  refine lv_iand hx hb dJ6_bitCount_0f7a4_21 ?_
  refine lv_iadd hx hb dJ6_bitCount_0f7a4_22 ?_
  obtain ⟨x0_2, ex0_2, hf⟩ := bnd_i hf
  refine s_nmI ex0_2 ?_
  refine lv_istore_n (lv' := [(0, .int x0_2)]) hx hb dJ6_bitCount_0f7a4_23 rfl hl (by decide) rfl (fun ls hl => ?_)
  refine lv_iload_n hx hb dJ6_bitCount_0f7a4_24 rfl (lv_at hl 0 rfl) ?_
  refine lv_iload_n hx hb dJ6_bitCount_0f7a4_25 rfl (lv_at hl 0 rfl) ?_
  refine lv_iconst (v := 4) hx hb dJ6_bitCount_0f7a4_26 (by decide) ?_
  refine lv_iushr (v := (x0_2.toUInt32 >>> ((4 : Int32).toUInt32 &&& Int32.toUInt32 31)).toInt32) hx hb dJ6_bitCount_0f7a4_27 rfl ?_
  refine lv_iadd hx hb dJ6_bitCount_0f7a4_28 ?_
  refine lv_ldcw (v := 252645135) hx hb hown (hu _ u3_235) dJ6_bitCount_0f7a4_29 ?_
  refine lv_iand hx hb dJ6_bitCount_0f7a4_32 ?_
  obtain ⟨x0_3, ex0_3, hf⟩ := bnd_i hf
  refine s_nmI ex0_3 ?_
  refine lv_istore_n (lv' := [(0, .int x0_3)]) hx hb dJ6_bitCount_0f7a4_33 rfl hl (by decide) rfl (fun ls hl => ?_)
  refine lv_iload_n hx hb dJ6_bitCount_0f7a4_34 rfl (lv_at hl 0 rfl) ?_
  refine lv_iload_n hx hb dJ6_bitCount_0f7a4_35 rfl (lv_at hl 0 rfl) ?_
  refine lv_bipush (v := 8) hx hb dJ6_bitCount_0f7a4_36 (by decide) ?_
  refine lv_iushr (v := (x0_3.toUInt32 >>> ((8 : Int32).toUInt32 &&& Int32.toUInt32 31)).toInt32) hx hb dJ6_bitCount_0f7a4_38 rfl ?_
  refine lv_iadd hx hb dJ6_bitCount_0f7a4_39 ?_
  obtain ⟨x0_4, ex0_4, hf⟩ := bnd_i hf
  refine s_nmI ex0_4 ?_
  refine lv_istore_n (lv' := [(0, .int x0_4)]) hx hb dJ6_bitCount_0f7a4_40 rfl hl (by decide) rfl (fun ls hl => ?_)
  refine lv_iload_n hx hb dJ6_bitCount_0f7a4_41 rfl (lv_at hl 0 rfl) ?_
  refine lv_iload_n hx hb dJ6_bitCount_0f7a4_42 rfl (lv_at hl 0 rfl) ?_
  refine lv_bipush (v := 16) hx hb dJ6_bitCount_0f7a4_43 (by decide) ?_
  refine lv_iushr (v := (x0_4.toUInt32 >>> ((16 : Int32).toUInt32 &&& Int32.toUInt32 31)).toInt32) hx hb dJ6_bitCount_0f7a4_45 rfl ?_
  refine lv_iadd hx hb dJ6_bitCount_0f7a4_46 ?_
  obtain ⟨x0_5, ex0_5, hf⟩ := bnd_i hf
  refine s_nmI ex0_5 ?_
  refine lv_istore_n (lv' := [(0, .int x0_5)]) hx hb dJ6_bitCount_0f7a4_47 rfl hl (by decide) rfl (fun ls hl => ?_)
  refine lv_iload_n hx hb dJ6_bitCount_0f7a4_48 rfl (lv_at hl 0 rfl) ?_
  refine lv_bipush (v := 63) hx hb dJ6_bitCount_0f7a4_49 (by decide) ?_
  refine lv_iand hx hb dJ6_bitCount_0f7a4_51 ?_
  subst hf
  exact s_iretP rfl E dJ6_bitCount_0f7a4_52
noncomputable def q_J7_fill_53178_5 (e0 : Nat) (n0 : Nat) (x1 : Int32)  (rec : (Mem × Int32 × Int32) → Option (Mem)) : (Mem × Int32 × Int32) → Option (Mem) := fun (G, x2, x3) => (if x3 ≤ x2 then some G else chk (inB x2 n0) (bnd (up2 G e0 x2.toNatClampNeg x1) (fun G4 => bnd (x2 + 1) (fun x2_5 => rec (G4, x2_5, x3)))))
noncomputable def f_J7_fill_53178 (G : Mem) (e0 : Nat) (n0 : Nat) (x1 : Int32) : Option (Mem) := bnd (nI n0) (fun x3_1 => iter (q_J7_fill_53178_5 e0 n0 x1) fuel (G, 0, x3_1))
theorem kyJ7_fill_53178 : Ky yJ7_fill_53178 cJ7_fill_53178 4 none 2 := ⟨u1_39, u1_3, by decide, by decide, by decide, by decide +kernel⟩
set_option maxHeartbeats 4000000 in
set_option maxRecDepth 100000 in
theorem c_J7_fill_53178 (l : Launch) (D : va_G) (K : List Nat) (sh : Nat → Ent) (ad : Nat → Nat) (cy : Nat → ClassId) (X : va_W) (B : State → Prop) (hcl : Bcl (AS K ad X) B)  (e0 n0 : Nat) (he0 : e0 ∈ K ∧ sh e0 = (1, n0, [])) (G : Mem) (L : MemL) (O : MemO) (x1 : Int32) {Gz : Mem} (hf : f_J7_fill_53178 G e0 n0 x1 = some Gz) : Met l yJ7_fill_53178 (wsU yJ7_fill_53178 cJ7_fill_53178 4 none) (rmX 1 0 0) (va_Pc [.ref (ad e0), .int x1] (PS D K sh ad cy X B G L O)) (QV (AS K ad X) (PH D K sh ad cy X Gz L O)) 0 0 (AS K ad X) := by
  refine s_met (by decide) (Nat.le_of_ble_eq_true rfl) ?_
  intro p e s m args below meth c ls H locs E hK hBs hnm hI hl
  have hl : lv_has ls 4 [(0, .ref (ad e0)), (1, .int x1)] := hl
  have E : Cx p s m args meth c RJ7 cJ7_fill_53178 4 none := E
  obtain ⟨hx, hb, hr, hml, hown, hu, hlocks⟩ := id E
  have B5 : ∀   (n : Nat) (G : Mem) (x2 : Int32) (x3 : Int32) (H : Heap) (locs : List Loc) (ls : Array Slot), lv_has ls 4 [(0, .ref (ad e0)), (1, .int x1), (2, .int x2), (3, .int x3)] → IS D K sh ad cy X (AS K ad X) s.heap H locs G L O → iter (q_J7_fill_53178_5 e0 n0 x1) n (G, x2, x3) = some Gz → W p l e (rmX 1 0 0) s m args below meth c H locs 0 0 (MQ below (QV (AS K ad X) (PH D K sh ad cy X Gz L O)) args s 0 0 (AS K ad X)) (F0 m 5 ls []) := by
    intro n
    induction n with
    | zero => intro G x2 x3 H locs ls hl hI hf; exact iter_0 hf
    | succ n ih =>
      intro G x2 x3 H locs ls hl hI hf
      have hf : q_J7_fill_53178_5 e0 n0 x1 (iter (q_J7_fill_53178_5 e0 n0 x1) n) (G, x2, x3) = some Gz := hf
      rw [q_J7_fill_53178_5] at hf
      refine lv_iload_n hx hb dJ7_fill_53178_5 rfl (lv_at hl 2 rfl) ?_
      refine lv_iload_n hx hb dJ7_fill_53178_6 rfl (lv_at hl 3 rfl) ?_
      refine lv_icmp_ge (tgt := 20) hx hb dJ7_fill_53178_7 (by decide) (fun c2 => ?_) (fun c2 => ?_)
      · have hf := ite_t c2 hf
        cases hf
        exact s_vret hx hb hr hI.2.2 hI.1 hlocks dJ7_fill_53178_20
      · have hf := ite_f c2 hf
        refine lv_aload_n hx hb dJ7_fill_53178_10 rfl (lv_at hl 0 rfl) ?_
        refine lv_iload_n hx hb dJ7_fill_53178_11 rfl (lv_at hl 2 rfl) ?_
        refine lv_iload_n hx hb dJ7_fill_53178_12 rfl (lv_at hl 1 rfl) ?_
        obtain ⟨h3, hf⟩ := chk_i hf
        obtain ⟨G4, eG4, hf⟩ := bnd_i hf
        refine s_ist hx hb hK hI he0 (inB_i h3) eG4 dJ7_fill_53178_13 (fun H locs hI => ?_)
        obtain ⟨x2_5, ex2_5, hf⟩ := bnd_i hf
        refine lv_iinc (v := x2_5) (lv' := [(2, .int x2_5), (0, .ref (ad e0)), (1, .int x1), (3, .int x3)]) hx hb dJ7_fill_53178_14 hl (k := 2) rfl (by rw [ex2_5]; rfl) (by decide) rfl (fun ls hl => ?_)
        refine lv_goto (tgt := 5) hx hb dJ7_fill_53178_17 (by decide) ?_
        exact ih G4 x2_5 x3 H locs ls (lv_sub hl [1, 2, 0, 3] rfl) hI hf
  rw [f_J7_fill_53178] at hf
  refine lv_iconst (v := 0) hx hb dJ7_fill_53178_0 (by decide) ?_
  refine lv_istore_n (lv' := [(2, .int 0), (0, .ref (ad e0)), (1, .int x1)]) hx hb dJ7_fill_53178_1 rfl hl (by decide) rfl (fun ls hl => ?_)
  refine lv_aload_n hx hb dJ7_fill_53178_2 rfl (lv_at hl 1 rfl) ?_
  refine s_alen (t := 1) (t0 := 0) (by decide) rfl hx hb hK hI he0 dJ7_fill_53178_3 ?_
  obtain ⟨x3_1, ex3_1, hf⟩ := bnd_i hf
  refine s_nmI ex3_1 ?_
  refine lv_istore_n (lv' := [(3, .int x3_1), (2, .int 0), (0, .ref (ad e0)), (1, .int x1)]) hx hb dJ7_fill_53178_4 rfl hl (by decide) rfl (fun ls hl => ?_)
  exact B5   fuel G 0 x3_1 H locs ls (lv_sub hl [2, 3, 1, 0] rfl) hI hf
noncomputable def q_J7_fill_d0a16_6 (e0 : Nat) (n0 : Nat) (w1 : Int64)  (rec : (MemL × Int32 × Int32) → Option (MemL)) : (MemL × Int32 × Int32) → Option (MemL) := fun (L, x3, x4) => (if x4 ≤ x3 then some L else chk (inB x3 n0) (bnd (up2 L e0 x3.toNatClampNeg w1) (fun L4 => bnd (x3 + 1) (fun x3_5 => rec (L4, x3_5, x4)))))
noncomputable def f_J7_fill_d0a16 (L : MemL) (e0 : Nat) (n0 : Nat) (w1 : Int64) : Option (MemL) := bnd (nI n0) (fun x4_1 => iter (q_J7_fill_d0a16_6 e0 n0 w1) fuel (L, 0, x4_1))
theorem kyJ7_fill_d0a16 : Ky yJ7_fill_d0a16 cJ7_fill_d0a16 5 none 2 := ⟨u3_208, u1_3, by decide, by decide, by decide, by decide +kernel⟩
set_option maxHeartbeats 4000000 in
set_option maxRecDepth 100000 in
theorem c_J7_fill_d0a16 (l : Launch) (D : va_G) (K : List Nat) (sh : Nat → Ent) (ad : Nat → Nat) (cy : Nat → ClassId) (X : va_W) (B : State → Prop) (hcl : Bcl (AS K ad X) B)  (e0 n0 : Nat) (he0 : e0 ∈ K ∧ sh e0 = (5, n0, [])) (G : Mem) (L : MemL) (O : MemO) (w1 : Int64) {Lz : MemL} (hf : f_J7_fill_d0a16 L e0 n0 w1 = some Lz) : Met l yJ7_fill_d0a16 (wsU yJ7_fill_d0a16 cJ7_fill_d0a16 5 none) (rmX 1 0 0) (va_Pc [.ref (ad e0), .long w1] (PS D K sh ad cy X B G L O)) (QV (AS K ad X) (PH D K sh ad cy X G Lz O)) 0 0 (AS K ad X) := by
  refine s_met (by decide) (Nat.le_of_ble_eq_true rfl) ?_
  intro p e s m args below meth c ls H locs E hK hBs hnm hI hl
  have hl : lv_has ls 5 [(0, .ref (ad e0)), (1, .long w1)] := hl
  have E : Cx p s m args meth c RJ7 cJ7_fill_d0a16 5 none := E
  obtain ⟨hx, hb, hr, hml, hown, hu, hlocks⟩ := id E
  have B6 : ∀   (n : Nat) (L : MemL) (x3 : Int32) (x4 : Int32) (H : Heap) (locs : List Loc) (ls : Array Slot), lv_has ls 5 [(0, .ref (ad e0)), (1, .long w1), (3, .int x3), (4, .int x4)] → IS D K sh ad cy X (AS K ad X) s.heap H locs G L O → iter (q_J7_fill_d0a16_6 e0 n0 w1) n (L, x3, x4) = some Lz → W p l e (rmX 1 0 0) s m args below meth c H locs 0 0 (MQ below (QV (AS K ad X) (PH D K sh ad cy X G Lz O)) args s 0 0 (AS K ad X)) (F0 m 6 ls []) := by
    intro n
    induction n with
    | zero => intro L x3 x4 H locs ls hl hI hf; exact iter_0 hf
    | succ n ih =>
      intro L x3 x4 H locs ls hl hI hf
      have hf : q_J7_fill_d0a16_6 e0 n0 w1 (iter (q_J7_fill_d0a16_6 e0 n0 w1) n) (L, x3, x4) = some Lz := hf
      rw [q_J7_fill_d0a16_6] at hf
      refine lv_iload_n hx hb dJ7_fill_d0a16_6 rfl (lv_at hl 2 rfl) ?_
      refine lv_iload hx hb dJ7_fill_d0a16_7 (lv_at hl 3 rfl) ?_
      refine lv_icmp_ge (tgt := 22) hx hb dJ7_fill_d0a16_9 (by decide) (fun c2 => ?_) (fun c2 => ?_)
      · have hf := ite_t c2 hf
        cases hf
        exact s_vret hx hb hr hI.2.2 hI.1 hlocks dJ7_fill_d0a16_22
      · have hf := ite_f c2 hf
        refine lv_aload_n hx hb dJ7_fill_d0a16_12 rfl (lv_at hl 0 rfl) ?_
        refine lv_iload_n hx hb dJ7_fill_d0a16_13 rfl (lv_at hl 2 rfl) ?_
        refine lv_lload_n hx hb dJ7_fill_d0a16_14 rfl (lv_at hl 1 rfl) ?_
        obtain ⟨h3, hf⟩ := chk_i hf
        obtain ⟨L4, eL4, hf⟩ := bnd_i hf
        refine s_lst hx hb hK hI he0 (inB_i h3) eL4 dJ7_fill_d0a16_15 (fun H locs hI => ?_)
        obtain ⟨x3_5, ex3_5, hf⟩ := bnd_i hf
        refine lv_iinc (v := x3_5) (lv' := [(3, .int x3_5), (0, .ref (ad e0)), (1, .long w1), (4, .int x4)]) hx hb dJ7_fill_d0a16_16 hl (k := 2) rfl (by rw [ex3_5]; rfl) (by decide) rfl (fun ls hl => ?_)
        refine lv_goto (tgt := 6) hx hb dJ7_fill_d0a16_19 (by decide) ?_
        exact ih L4 x3_5 x4 H locs ls (lv_sub hl [1, 2, 0, 3] rfl) hI hf
  rw [f_J7_fill_d0a16] at hf
  refine lv_iconst (v := 0) hx hb dJ7_fill_d0a16_0 (by decide) ?_
  refine lv_istore_n (lv' := [(3, .int 0), (0, .ref (ad e0)), (1, .long w1)]) hx hb dJ7_fill_d0a16_1 rfl hl (by decide) rfl (fun ls hl => ?_)
  refine lv_aload_n hx hb dJ7_fill_d0a16_2 rfl (lv_at hl 1 rfl) ?_
  refine s_alen (t := 5) (t0 := 4) (by decide) rfl hx hb hK hI he0 dJ7_fill_d0a16_3 ?_
  obtain ⟨x4_1, ex4_1, hf⟩ := bnd_i hf
  refine s_nmI ex4_1 ?_
  refine lv_istore (lv' := [(4, .int x4_1), (3, .int 0), (0, .ref (ad e0)), (1, .long w1)]) hx hb dJ7_fill_d0a16_4 hl (by decide) rfl (fun ls hl => ?_)
  exact B6   fuel L 0 x4_1 H locs ls (lv_sub hl [2, 3, 1, 0] rfl) hI hf
