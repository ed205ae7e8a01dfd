-- calls by contract over the abstract store
/-- a method that touches no cell: its answer -/
def QP (v : Int32) : Array Value → State → Outcome → State → Prop := fun _ st o t => o = .returned (some (.int v)) ∧ t.heap = st.heap
def QPL (v : Int64) : Array Value → State → Outcome → State → Prop := fun _ st o t => o = .returned (some (.long v)) ∧ t.heap = st.heap
def noA : Nat → Prop := fun _ => False
section CL
variable {p : Program} {l : Launch} {e : Env} {R : Room} {s : State} {m : MethodId} {args : Array Value} {below : List Frame} {meth : Method} {c : Code} {H H0 : Heap} {locs : List Loc} {cells slots : Nat} {Q : State → Prop}
variable {cc : ByteArray} {pc : Nat} {ls : Array Slot} {rest st0 : List Value} {D : va_G} {K : List Nat} {sh : Nat → Ent} {ad : Nat → Nat} {cy : Nat → ClassId} {X : va_W} {A : Nat → Prop} {B : State → Prop} {G G1 : Mem} {L L1 : MemL} {O O1 : MemO} {k n : Nat} {fl : List Nat}
variable {y : MethodName} {bytes : ByteArray} {maxL nL np index lv lv' cs ss : Nat} {ret rt : Option FieldType} {own C host : String} {As : List Value} {v : Int32} {w : Int64}
theorem s_met0 {mL : Nat} {vs : List Value} {Qc : Array Value → State → Outcome → State → Prop} (hy : plainName y.cls = true) (hn : (lg_sl vs).length ≤ mL)
    (body : ∀ (p : Program) (e : Env) (s : State) (m : MethodId) (args : Array Value) (below : List Frame) (meth : Method) (c : Code) (ls : Array Slot), Cx p s m args meth c y.cls cc mL ret → lv_has ls mL (lv_args 0 vs) →
      W p l e (rmX lv 0 0) s m args below meth c s.heap [] 0 0 (MQ below Qc args s 0 0 noA) (F0 m 0 ls [])) :
    Met l y (wsU y cc mL ret) (rmX lv 0 0) (va_Pc vs (fun _ => True)) Qc 0 0 noA := by
  refine Met.ofW (cc := cc) (maxL := mL) (ret := ret) hy rfl ?_
  intro p e s m args below meth c s₁ E hml hv
  obtain ⟨rfl, -⟩ := hv
  have hts := atoms_spec (ws := wsU y cc mL ret) E.pre
  rw [lg_entry_eq]
  exact body p e s m _ below meth c _ ⟨E.exec, E.bytes, E.returns, hml, findClass_of_methodNamed E.named, fun w h => hts w (List.mem_cons_of_mem _ h), E.notSynchronized⟩ (lv_entry vs hn)
theorem s_iretP {ty : FieldType} (hn : narrow ty (.int v) = .int v) (E : Cx p s m args meth c own cc nL (some ty)) (hdg : decode cc pc = .ok (.ireturn, 1)) : W p l e R s m args below meth c s.heap [] cells slots (MQ below (QP v) args s cells slots noA) (F0 m pc ls [.int v]) := by
  obtain ⟨hx, hb, hr, -, -, -, hlocks⟩ := E
  exact W.zret hx hb hr hn (fun t ht hW => ⟨rfl, ht⟩) (fun _ h => by cases h) hdg hlocks
theorem s_goP {Qa : State → Outcome → State → Prop} {val : Value} (hr : va_Run p l e R s m args below meth c H locs cells slots 0 0 (F0 m pc ls st0) rest Qa noA) (hQ : ∀ st₀ v t, Qa st₀ (.returned v) t → v = some val ∧ t.heap = st₀.heap)
    (kk : W p l e R s m args below meth c H locs cells slots Q (F0 m (pc + 3) ls (val :: rest))) : W p l e R s m args below meth c H locs cells slots Q (F0 m pc ls st0) := by
  intro T hT X
  obtain ⟨v, st₀, t, T', L, h0, X', hL, e1, e2, hq, st⟩ := hr T hT X
  obtain ⟨hv, hh⟩ := hQ _ _ _ hq
  have hLn : L = [] := List.eq_nil_iff_forall_not_mem.mpr fun q h => hL q h
  subst hLn
  subst hv
  rw [List.append_nil] at X'
  obtain ⟨t2, a1, b1⟩ := kk T' (by rw [e1, hh, h0]) X'
  exact ⟨t2, st t2 a1, b1⟩
theorem QP_go {a : Array Value} : ∀ st₀ (x : Option Value) t, QP v a st₀ (.returned x) t → x = some (.int v) ∧ t.heap = st₀.heap := fun _ _ _ h => ⟨by cases h.1; rfl, h.2⟩
theorem QPL_go {a : Array Value} : ∀ st₀ (x : Option Value) t, QPL w a st₀ (.returned x) t → x = some (.long w) ∧ t.heap = st₀.heap := fun _ _ _ h => ⟨by cases h.1; rfl, h.2⟩
/-- a static method that touches no cell -/
theorem s_cSP (E : Cx p s m args meth c own cc nL rt) (hM : Met l y (wsU y bytes maxL ret) (rmX lv 0 0) (va_Pc As (fun _ => True)) (QP v) 0 0 noA) (hy : Ky y bytes maxL ret np) (hl : Cond.methodLink own index y ∈ UU) (h2 : Cond.static y ∈ UU) (hlv : lv + 1 ≤ lv') (hn : As.length = np) (hls : ls.size = nL) (hst : st0 = As.reverse ++ rest) (hW : (rest.map fun v => v.category).sum ≤ 8) (hf : cells ≤ cs ∧ slots ≤ ss) (hdg : decode cc pc = .ok (.invokestatic index, 3))
    (kk : W p l e (rmX lv' cs ss) s m args below meth c H locs cells slots Q (F0 m (pc + 3) ls (.int v :: rest))) : W p l e (rmX lv' cs ss) s m args below meth c H locs cells slots Q (F0 m pc ls st0) := by
  obtain ⟨hx, hb, hr, hml, hown, hu, hlocks⟩ := E
  exact s_goP (va_runS (As := As) (rest := rest) ⟨hx, hb, hml, hown, hu⟩ hM ⟨s_callB hu hy hlv hl, hu _ h2⟩ ⟨fun _ _ _ _ q => q, fun U hU hW => ⟨rfl, trivial⟩⟩ rfl hn hls hst (lv_room hW) hdg hf) QP_go kk
theorem s_cSNP (E : Cx p s m args meth c own cc nL rt) (hK : KS D cy s) (hM : Met l y (wsU y bytes maxL ret) (rmX lv 0 0) (va_Pc As (fun _ => True)) (QP v) 0 0 noA) (hy : Ky y bytes maxL ret np) (hl : (own, index, y, host) ∈ nestM) (h2 : Cond.static y ∈ UU) (hlv : lv + 1 ≤ lv') (hn : As.length = np) (hls : ls.size = nL) (hst : st0 = As.reverse ++ rest) (hW : (rest.map fun v => v.category).sum ≤ 8) (hf : cells ≤ cs ∧ slots ≤ ss) (hdg : decode cc pc = .ok (.invokestatic index, 3))
    (kk : W p l e (rmX lv' cs ss) s m args below meth c H locs cells slots Q (F0 m (pc + 3) ls (.int v :: rest))) : W p l e (rmX lv' cs ss) s m args below meth c H locs cells slots Q (F0 m pc ls st0) := by
  obtain ⟨hx, hb, hr, hml, hown, hu, hlocks⟩ := E
  exact s_goP (va_runSN (As := As) (rest := rest) ⟨hx, hb, hml, hown, hu⟩ hM ⟨s_callN hu hK hy hlv hl, hu _ h2, trivial⟩ ⟨fun _ _ _ _ q => q, fun U hU hW => ⟨rfl, trivial⟩⟩ rfl hn hls hst (lv_room hW) hdg hf) QP_go kk
-- what comes back from a method over the store
theorem s_back {A0 : Nat → Prop} {H1 : Heap} {locs1 : List Loc} (hI : IS D K sh ad cy X A0 H0 H locs G L O) (hP1 : PH D K sh ad cy X G1 L1 O1 H1) (hS1 : va_S A0 H0 H1 locs1) : IS D K sh ad cy X A0 H0 H1 locs1 G1 L1 O1 := ⟨hP1, wS_D hI.2.1, hS1⟩
theorem s_runV {Qc : Array Value → State → Outcome → State → Prop} {mc ms : Nat} {T : u_T} {N ci : Nat} (E : Cx p s m args meth c own cc nL rt) (hK : KS D cy s) (hI : IS D K sh ad cy X A s.heap H locs G L O) (hBU : ∀ U : State, U.heap = H → s.WarmedH U.vm → B U) (hBb : ∀ (U : State) (g : JFrame) (mk : MethodId) (a : Array Value), B U → B (U.calling g mk a)) (hE : k ∈ K ∧ sh k = (0, ci, fl)) (hc : vwCl[ci]? = some (C, T, N))
    (hM : Met l y (wsU y bytes maxL ret) (rmX lv mc ms) (va_Pc (.ref (ad k) :: As) (PS D K sh ad cy X B G L O)) Qc mc ms (AS K ad X)) (hy : Ky y bytes maxL ret np) (hl : Cond.methodLink own index y ∈ UU) (h2 : Cond.instanceMethod y ∈ UU) (h3 : Cond.selects C y y ∈ UU) (hlv : lv + 1 ≤ lv') (hn : As.length = np) (hls : ls.size = nL) (hst : st0 = As.reverse ++ .ref (ad k) :: rest) (hW : (rest.map fun v => v.category).sum ≤ 8) (hf : cells + mc ≤ cs ∧ slots + ms ≤ ss) (hdg : decode cc pc = .ok (.invokevirtual index, 3)) :
    va_Run p l e (rmX lv' cs ss) s m args below meth c H locs cells slots mc ms (F0 m pc ls st0) rest (Qc (Value.ref (ad k) :: As).toArray) (AS K ad X) := by
  obtain ⟨hx, hb, hr, hml, hown, hu, hlocks⟩ := E
  obtain ⟨q, hq, -⟩ := wS_at (sh := sh) (ad := ad) (cy := cy) (G := G) (L := L) (O := O) (X := X) hE.1
  rw [entE_o hE.2] at hq
  obtain ⟨hP, hD, hS⟩ := hI
  exact va_runV (C := C) (As := As) (rest := rest) ⟨hx, hb, hml, hown, hu⟩ hM ⟨s_callB hu hy hlv hl, hu _ h2, hu _ h3⟩ ⟨PS_blind hBb, va_recv hK.1 hP hc hq, fun U hU hW => ⟨rfl, by rw [hU]; exact hP, hD.weaken (fun _ _ _ _ => trivial), hK.warm hW, hBU U hU hW⟩⟩ rfl hn hls hst (lv_room hW) hdg hf
theorem s_runS {Qc : Array Value → State → Outcome → State → Prop} {mc ms : Nat} (E : Cx p s m args meth c own cc nL rt) (hK : KS D cy s) (hI : IS D K sh ad cy X A s.heap H locs G L O) (hBU : ∀ U : State, U.heap = H → s.WarmedH U.vm → B U) (hBb : ∀ (U : State) (g : JFrame) (mk : MethodId) (a : Array Value), B U → B (U.calling g mk a))
    (hM : Met l y (wsU y bytes maxL ret) (rmX lv mc ms) (va_Pc As (PS D K sh ad cy X B G L O)) Qc mc ms (AS K ad X)) (hy : Ky y bytes maxL ret np) (hl : Cond.methodLink own index y ∈ UU) (h2 : Cond.static y ∈ UU) (hlv : lv + 1 ≤ lv') (hn : As.length = np) (hls : ls.size = nL) (hst : st0 = As.reverse ++ rest) (hW : (rest.map fun v => v.category).sum ≤ 8) (hf : cells + mc ≤ cs ∧ slots + ms ≤ ss) (hdg : decode cc pc = .ok (.invokestatic index, 3)) :
    va_Run p l e (rmX lv' cs ss) s m args below meth c H locs cells slots mc ms (F0 m pc ls st0) rest (Qc As.toArray) (AS K ad X) := by
  obtain ⟨hx, hb, hr, hml, hown, hu, hlocks⟩ := E
  obtain ⟨hP, hD, hS⟩ := hI
  exact va_runS (As := As) (rest := rest) ⟨hx, hb, hml, hown, hu⟩ hM ⟨s_callB hu hy hlv hl, hu _ h2⟩ ⟨PS_blind hBb, fun U hU hW => ⟨rfl, by rw [hU]; exact hP, hD.weaken (fun _ _ _ _ => trivial), hK.warm hW, hBU U hU hW⟩⟩ rfl hn hls hst (lv_room hW) hdg hf
theorem s_runSN {Qc : Array Value → State → Outcome → State → Prop} {mc ms : Nat} (E : Cx p s m args meth c own cc nL rt) (hK : KS D cy s) (hI : IS D K sh ad cy X A s.heap H locs G L O) (hBU : ∀ U : State, U.heap = H → s.WarmedH U.vm → B U) (hBb : ∀ (U : State) (g : JFrame) (mk : MethodId) (a : Array Value), B U → B (U.calling g mk a))
    (hM : Met l y (wsU y bytes maxL ret) (rmX lv mc ms) (va_Pc As (PS D K sh ad cy X B G L O)) Qc mc ms (AS K ad X)) (hy : Ky y bytes maxL ret np) (hl : (own, index, y, host) ∈ nestM) (h2 : Cond.static y ∈ UU) (hlv : lv + 1 ≤ lv') (hn : As.length = np) (hls : ls.size = nL) (hst : st0 = As.reverse ++ rest) (hW : (rest.map fun v => v.category).sum ≤ 8) (hf : cells + mc ≤ cs ∧ slots + ms ≤ ss) (hdg : decode cc pc = .ok (.invokestatic index, 3)) :
    va_Run p l e (rmX lv' cs ss) s m args below meth c H locs cells slots mc ms (F0 m pc ls st0) rest (Qc As.toArray) (AS K ad X) := by
  obtain ⟨hx, hb, hr, hml, hown, hu, hlocks⟩ := E
  obtain ⟨hP, hD, hS⟩ := hI
  exact va_runSN (As := As) (rest := rest) ⟨hx, hb, hml, hown, hu⟩ hM ⟨s_callN hu hK hy hlv hl, hu _ h2, trivial⟩ ⟨PS_blind hBb, fun U hU hW => ⟨rfl, by rw [hU]; exact hP, hD.weaken (fun _ _ _ _ => trivial), hK.warm hW, hBU U hU hW⟩⟩ rfl hn hls hst (lv_room hW) hdg hf
theorem s_inA (hI : IS D K sh ad cy X A H0 H locs G L O) : ∀ q, AS K ad X q → A q := AS_D hI.2.1
theorem s_afI {mc ms : Nat} {a : Array Value} (hI : IS D K sh ad cy X A H0 H locs G L O) (hr : va_Run p l e R s m args below meth c H locs cells slots mc ms (F0 m pc ls st0) rest (QI (AS K ad X) (PH D K sh ad cy X G1 L1 O1) v a) (AS K ad X))
    (kk : ∀ (H : Heap) (locs : List Loc), IS D K sh ad cy X A H0 H locs G1 L1 O1 → W p l e R s m args below meth c H locs (cells + mc) (slots + ms) Q (F0 m (pc + 3) ls (.int v :: rest))) : W p l e R s m args below meth c H locs cells slots Q (F0 m pc ls st0) :=
  va_calli (S := Unit) (post := fun r _ => r = v) (B := fun _ t => PH D K sh ad cy X G1 L1 O1 t.heap) (A1 := AS K ad X) (a := a) hr hI.2.2 (fun q _ h => s_inA hI q h) (s_inA hI) (fun r u t H1 locs1 ht _ hp hq _ _ hS1 => by
    subst hp
    exact kk H1 locs1 (s_back hI (by rw [← ht]; exact hq) hS1))
theorem s_afL {mc ms : Nat} {a : Array Value} (hI : IS D K sh ad cy X A H0 H locs G L O) (hr : va_Run p l e R s m args below meth c H locs cells slots mc ms (F0 m pc ls st0) rest (QL (AS K ad X) (PH D K sh ad cy X G1 L1 O1) w a) (AS K ad X))
    (kk : ∀ (H : Heap) (locs : List Loc), IS D K sh ad cy X A H0 H locs G1 L1 O1 → W p l e R s m args below meth c H locs (cells + mc) (slots + ms) Q (F0 m (pc + 3) ls (.long w :: rest))) : W p l e R s m args below meth c H locs cells slots Q (F0 m pc ls st0) :=
  va_calll (S := Unit) (post := fun r _ => r = w) (B := fun _ t => PH D K sh ad cy X G1 L1 O1 t.heap) (A1 := AS K ad X) (a := a) hr hI.2.2 (fun q _ h => s_inA hI q h) (s_inA hI) (fun r u t H1 locs1 ht _ hp hq _ _ hS1 => by
    subst hp
    exact kk H1 locs1 (s_back hI (by rw [← ht]; exact hq) hS1))
theorem s_afV {mc ms : Nat} {a : Array Value} (hI : IS D K sh ad cy X A H0 H locs G L O) (hr : va_Run p l e R s m args below meth c H locs cells slots mc ms (F0 m pc ls st0) rest (QV (AS K ad X) (PH D K sh ad cy X G1 L1 O1) a) (AS K ad X))
    (kk : ∀ (H : Heap) (locs : List Loc), IS D K sh ad cy X A H0 H locs G1 L1 O1 → W p l e R s m args below meth c H locs (cells + mc) (slots + ms) Q (F0 m (pc + 3) ls rest)) : W p l e R s m args below meth c H locs cells slots Q (F0 m pc ls st0) :=
  va_callv (S := Unit) (post := fun _ => True) (B := fun _ t => PH D K sh ad cy X G1 L1 O1 t.heap) (A1 := AS K ad X) (a := a) hr hI.2.2 (fun q _ h => s_inA hI q h) (s_inA hI) (fun u t H1 locs1 ht _ hp hq _ _ hS1 => by
    exact kk H1 locs1 (s_back hI (by rw [← ht]; exact hq) hS1))
/-- a start's further fact, later in the walk -/
theorem s_B (hcl : Bcl A B) (hB : B s) (hI : IS D K sh ad cy X A s.heap H locs G L O) : ∀ U : State, U.heap = H → s.WarmedH U.vm → B U := fun U hU hW => hcl.1 s U hW (by rw [hU]; exact hI.2.2.1) (fun q h1 h2 => by rw [hU]; exact hI.2.2.2.1 q h1 h2) hB
/-- a name for the top of the stack -/
theorem s_nmI {x z : Int32} (h : z = x) (kk : W p l e R s m args below meth c H locs cells slots Q (F0 m pc ls (.int z :: rest))) : W p l e R s m args below meth c H locs cells slots Q (F0 m pc ls (.int x :: rest)) := by rw [← h]; exact kk
theorem s_nmL {x z : Int64} (h : z = x) (kk : W p l e R s m args below meth c H locs cells slots Q (F0 m pc ls (.long z :: rest))) : W p l e R s m args below meth c H locs cells slots Q (F0 m pc ls (.long x :: rest)) := by rw [← h]; exact kk
-- switches
theorem s_tbl {dflt lo hi : Int} {offs : Array Int} {len : Nat} {x : Int32} {off : Int} {tgt : Nat} (j : Int32) (E : Cx p s m args meth c own cc nL rt) (hdg : decode cc pc = .ok (.tableswitch dflt lo hi offs, len)) (hj : x = j) (h1 : ¬ j.toInt < lo) (h2 : ¬ hi < j.toInt) (ho : offs[(j.toInt - lo).toNat]? = some off) (ht : (pc : Int) + off = (tgt : Int)) (kk : W p l e R s m args below meth c H locs cells slots Q (F0 m tgt ls rest)) : W p l e R s m args below meth c H locs cells slots Q (F0 m pc ls (.int x :: rest)) := by
  subst hj
  exact lv_tableIn E.1 E.2.1 hdg h1 h2 ho ht kk
theorem s_lkp {dflt : Int} {ps : Array (Int × Int)} {len : Nat} {x : Int32} {off : Int} {tgt : Nat} (j : Int32) (E : Cx p s m args meth c own cc nL rt) (hdg : decode cc pc = .ok (.lookupswitch dflt ps, len)) (hp : (ps.toList.zip (ps.toList.drop 1)).all (fun (a, next) => a.1 < next.1) = true) (hj : x = j) (ho : Op.lookupswitch.offset ps.toList dflt j.toInt = off) (ht : (pc : Int) + off = (tgt : Int)) (kk : W p l e R s m args below meth c H locs cells slots Q (F0 m tgt ls rest)) : W p l e R s m args below meth c H locs cells slots Q (F0 m pc ls (.int x :: rest)) := by
  subst hj
  exact lv_lookup E.1 E.2.1 hdg hp ho ht kk
end CL
