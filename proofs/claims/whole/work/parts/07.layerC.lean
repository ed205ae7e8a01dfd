-- the class's own entities
def flMn : List Nat := [103, 109, 0, 115, 0, 116, 119, 0, 120, 130, 139, 140]
def flPc (e : Nat) : List Nat := [e + 3, e + 4, e + 5, e + 6, e + 7, 0, 0, 0]
def flRd : List Nat := [117, 118, 0, 0, 0, 0, 0, 0]
def flSh (e : Nat) : List Nat := [e + 6, 0, 0]
def flCo : List Nat := [103, 115, 131, 132, 133, 134, 135, 136, 137, 138, 0, 0, 1, 0, 0, 0]
def flTx (e : Nat) : List Nat := [e + 3, e + 4, e + 5]
def shC : List (Nat × Ent) := [(100, (0, 11, flMn)), (101, (0, 4, flPc 101)), (102, (1, 48, [])), (103, (1, 48, [])), (104, (1, 48, [])), (105, (1, 4, [])), (106, (1, 10, [])), (107, (0, 4, flPc 107)), (108, (1, 48, [])), (109, (1, 48, [])), (110, (1, 48, [])), (111, (1, 4, [])), (112, (1, 10, [])), (113, (6, 10, [])), (114, (0, 5, flRd)), (115, (4, 160, [])), (116, (1, 160, [])), (117, (7, 6, [])), (118, (8, 4, [])), (120, (0, 6, flSh 120)), (121, (0, 6, flSh 121)), (122, (0, 6, flSh 122)), (123, (0, 6, flSh 123)), (124, (1, 40, [])), (125, (1, 40, [])), (126, (1, 40, [])), (127, (1, 40, [])), (128, (0, 1, flCo)), (129, (1, 6, [])), (130, (1, 10, [])), (131, (1, 10, [])), (132, (1, 10, [])), (133, (5, 10, [])), (134, (1, 4, [])), (135, (1, 4, [])), (136, (1, 48, [])), (137, (5, 200, [])), (138, (5, 200, []))]
theorem eC_100 : ((100, (0, 11, flMn)) : Nat × Ent) ∈ shC := List.mem_of_getElem? (i := 0) rfl
theorem eC_101 : ((101, (0, 4, flPc 101)) : Nat × Ent) ∈ shC := List.mem_of_getElem? (i := 1) rfl
theorem eC_102 : ((102, (1, 48, [])) : Nat × Ent) ∈ shC := List.mem_of_getElem? (i := 2) rfl
theorem eC_103 : ((103, (1, 48, [])) : Nat × Ent) ∈ shC := List.mem_of_getElem? (i := 3) rfl
theorem eC_104 : ((104, (1, 48, [])) : Nat × Ent) ∈ shC := List.mem_of_getElem? (i := 4) rfl
theorem eC_105 : ((105, (1, 4, [])) : Nat × Ent) ∈ shC := List.mem_of_getElem? (i := 5) rfl
theorem eC_106 : ((106, (1, 10, [])) : Nat × Ent) ∈ shC := List.mem_of_getElem? (i := 6) rfl
theorem eC_107 : ((107, (0, 4, flPc 107)) : Nat × Ent) ∈ shC := List.mem_of_getElem? (i := 7) rfl
theorem eC_108 : ((108, (1, 48, [])) : Nat × Ent) ∈ shC := List.mem_of_getElem? (i := 8) rfl
theorem eC_109 : ((109, (1, 48, [])) : Nat × Ent) ∈ shC := List.mem_of_getElem? (i := 9) rfl
theorem eC_110 : ((110, (1, 48, [])) : Nat × Ent) ∈ shC := List.mem_of_getElem? (i := 10) rfl
theorem eC_111 : ((111, (1, 4, [])) : Nat × Ent) ∈ shC := List.mem_of_getElem? (i := 11) rfl
theorem eC_112 : ((112, (1, 10, [])) : Nat × Ent) ∈ shC := List.mem_of_getElem? (i := 12) rfl
theorem eC_113 : ((113, (6, 10, [])) : Nat × Ent) ∈ shC := List.mem_of_getElem? (i := 13) rfl
theorem eC_114 : ((114, (0, 5, flRd)) : Nat × Ent) ∈ shC := List.mem_of_getElem? (i := 14) rfl
theorem eC_115 : ((115, (4, 160, [])) : Nat × Ent) ∈ shC := List.mem_of_getElem? (i := 15) rfl
theorem eC_116 : ((116, (1, 160, [])) : Nat × Ent) ∈ shC := List.mem_of_getElem? (i := 16) rfl
theorem eC_117 : ((117, (7, 6, [])) : Nat × Ent) ∈ shC := List.mem_of_getElem? (i := 17) rfl
theorem eC_118 : ((118, (8, 4, [])) : Nat × Ent) ∈ shC := List.mem_of_getElem? (i := 18) rfl
theorem eC_120 : ((120, (0, 6, flSh 120)) : Nat × Ent) ∈ shC := List.mem_of_getElem? (i := 19) rfl
theorem eC_121 : ((121, (0, 6, flSh 121)) : Nat × Ent) ∈ shC := List.mem_of_getElem? (i := 20) rfl
theorem eC_122 : ((122, (0, 6, flSh 122)) : Nat × Ent) ∈ shC := List.mem_of_getElem? (i := 21) rfl
theorem eC_123 : ((123, (0, 6, flSh 123)) : Nat × Ent) ∈ shC := List.mem_of_getElem? (i := 22) rfl
theorem eC_124 : ((124, (1, 40, [])) : Nat × Ent) ∈ shC := List.mem_of_getElem? (i := 23) rfl
theorem eC_125 : ((125, (1, 40, [])) : Nat × Ent) ∈ shC := List.mem_of_getElem? (i := 24) rfl
theorem eC_126 : ((126, (1, 40, [])) : Nat × Ent) ∈ shC := List.mem_of_getElem? (i := 25) rfl
theorem eC_127 : ((127, (1, 40, [])) : Nat × Ent) ∈ shC := List.mem_of_getElem? (i := 26) rfl
theorem eC_128 : ((128, (0, 1, flCo)) : Nat × Ent) ∈ shC := List.mem_of_getElem? (i := 27) rfl
theorem eC_129 : ((129, (1, 6, [])) : Nat × Ent) ∈ shC := List.mem_of_getElem? (i := 28) rfl
theorem eC_130 : ((130, (1, 10, [])) : Nat × Ent) ∈ shC := List.mem_of_getElem? (i := 29) rfl
theorem eC_131 : ((131, (1, 10, [])) : Nat × Ent) ∈ shC := List.mem_of_getElem? (i := 30) rfl
theorem eC_132 : ((132, (1, 10, [])) : Nat × Ent) ∈ shC := List.mem_of_getElem? (i := 31) rfl
theorem eC_133 : ((133, (5, 10, [])) : Nat × Ent) ∈ shC := List.mem_of_getElem? (i := 32) rfl
theorem eC_134 : ((134, (1, 4, [])) : Nat × Ent) ∈ shC := List.mem_of_getElem? (i := 33) rfl
theorem eC_135 : ((135, (1, 4, [])) : Nat × Ent) ∈ shC := List.mem_of_getElem? (i := 34) rfl
theorem eC_136 : ((136, (1, 48, [])) : Nat × Ent) ∈ shC := List.mem_of_getElem? (i := 35) rfl
theorem eC_137 : ((137, (5, 200, [])) : Nat × Ent) ∈ shC := List.mem_of_getElem? (i := 36) rfl
theorem eC_138 : ((138, (5, 200, [])) : Nat × Ent) ∈ shC := List.mem_of_getElem? (i := 37) rfl
def sgE (S : Nat → Nat) (e : Nat) : Bool := decide (1000 ≤ e ∧ e < 2000 ∧ (S e = 0 ∨ S e = 2 ∨ S e = 3 ∨ S e = 7 ∨ S e = 8 ∨ S e = 10))
def txE (S : Nat → Nat) (e : Nat) : Bool := decide (2000 ≤ e ∧ e % 4 = 0 ∧ S e = 9)
def shE (e : Nat) : Bool := decide (120 ≤ e ∧ e < 124)
def pcE (e : Nat) : Bool := decide (e = 101 ∨ e = 107)
def HC (S : Nat → Nat) (K : List Nat) (sh : Nat → Ent) : Prop := (∀ q ∈ shC, q.1 ∈ K ∧ sh q.1 = q.2) ∧ (∀ e, sgE S e = true → e ∈ K ∧ sh e = (0, S e, [0, 0, 0])) ∧ ∀ e, txE S e = true → (e ∈ K ∧ sh e = (0, 9, flTx e)) ∧ (e + 1 ∈ K ∧ sh (e + 1) = (1, S (e + 1), [])) ∧ (e + 2 ∈ K ∧ sh (e + 2) = (1, 3, [])) ∧ (e + 3 ∈ K ∧ sh (e + 3) = (1, 32, []))
theorem shS {K : List Nat} {sh : Nat → Ent} (hE : ∀ q ∈ shC, q.1 ∈ K ∧ sh q.1 = q.2) {e : Nat} (h : shE e = true) : e ∈ K ∧ sh e = (0, 6, flSh e) := by
  have h := of_decide_eq_true h
  rcases (show e = 120 ∨ e = 121 ∨ e = 122 ∨ e = 123 by omega) with rfl | rfl | rfl | rfl
  · exact mE hE eC_120
  · exact mE hE eC_121
  · exact mE hE eC_122
  · exact mE hE eC_123
theorem shI {K : List Nat} {sh : Nat → Ent} (hE : ∀ q ∈ shC, q.1 ∈ K ∧ sh q.1 = q.2) {e : Nat} (h : shE e = true) : e + 4 ∈ K ∧ sh (e + 4) = (1, 40, []) := by
  have h := of_decide_eq_true h
  rcases (show e = 120 ∨ e = 121 ∨ e = 122 ∨ e = 123 by omega) with rfl | rfl | rfl | rfl
  · exact mE hE eC_124
  · exact mE hE eC_125
  · exact mE hE eC_126
  · exact mE hE eC_127
theorem pcS {K : List Nat} {sh : Nat → Ent} (hE : ∀ q ∈ shC, q.1 ∈ K ∧ sh q.1 = q.2) {e : Nat} (h : pcE e = true) : e ∈ K ∧ sh e = (0, 4, flPc e) := by
  rcases of_decide_eq_true h with rfl | rfl
  · exact mE hE eC_101
  · exact mE hE eC_107
theorem pcA1 {K : List Nat} {sh : Nat → Ent} (hE : ∀ q ∈ shC, q.1 ∈ K ∧ sh q.1 = q.2) {e : Nat} (h : pcE e = true) : e + 1 ∈ K ∧ sh (e + 1) = (1, 48, []) := by
  rcases of_decide_eq_true h with rfl | rfl
  · exact mE hE eC_102
  · exact mE hE eC_108
theorem pcA2 {K : List Nat} {sh : Nat → Ent} (hE : ∀ q ∈ shC, q.1 ∈ K ∧ sh q.1 = q.2) {e : Nat} (h : pcE e = true) : e + 2 ∈ K ∧ sh (e + 2) = (1, 48, []) := by
  rcases of_decide_eq_true h with rfl | rfl
  · exact mE hE eC_103
  · exact mE hE eC_109
theorem pcA3 {K : List Nat} {sh : Nat → Ent} (hE : ∀ q ∈ shC, q.1 ∈ K ∧ sh q.1 = q.2) {e : Nat} (h : pcE e = true) : e + 3 ∈ K ∧ sh (e + 3) = (1, 48, []) := by
  rcases of_decide_eq_true h with rfl | rfl
  · exact mE hE eC_104
  · exact mE hE eC_110
theorem pcA4 {K : List Nat} {sh : Nat → Ent} (hE : ∀ q ∈ shC, q.1 ∈ K ∧ sh q.1 = q.2) {e : Nat} (h : pcE e = true) : e + 4 ∈ K ∧ sh (e + 4) = (1, 4, []) := by
  rcases of_decide_eq_true h with rfl | rfl
  · exact mE hE eC_105
  · exact mE hE eC_111
theorem pcA5 {K : List Nat} {sh : Nat → Ent} (hE : ∀ q ∈ shC, q.1 ∈ K ∧ sh q.1 = q.2) {e : Nat} (h : pcE e = true) : e + 5 ∈ K ∧ sh (e + 5) = (1, 10, []) := by
  rcases of_decide_eq_true h with rfl | rfl
  · exact mE hE eC_106
  · exact mE hE eC_112
def SgH (S : Nat → Nat) (K : List Nat) (sh : Nat → Ent) (e : Nat) : Prop := (e ∈ K ∧ sh e = (0, S e, [0, 0, 0])) ∧ sgE S e = true
theorem sg_cases {S : Nat → Nat} {e : Nat} (h : sgE S e = true) : S e = 0 ∨ S e = 2 ∨ S e = 3 ∨ S e = 7 ∨ S e = 8 ∨ S e = 10 := (of_decide_eq_true h).2.2
section LC
variable {p : Program} {l : Launch} {e : Env} {R : Room} {s : State} {m : MethodId} {args : Array Value} {below : List Frame} {meth : Method} {c : Code} {H H0 : Heap} {locs : List Loc} {cells slots : Nat} {Q : State → Prop}
variable {cc : ByteArray} {pc : Nat} {ls : Array Slot} {rest st0 : List Value} {D : va_G} {K : List Nat} {sh : Nat → Ent} {ad : Nat → Nat} {cy : Nat → ClassId} {X : va_W} {A : Nat → Prop} {B : State → Prop} {G G1 : Mem} {L L1 : MemL} {O O1 : MemO} {S : Nat → Nat} {k n : Nat} {fl : List Nat}
variable {y x : MethodName} {bytes : ByteArray} {maxL nL np index lv lv' cs ss : Nat} {ret rt : Option FieldType} {own C owner host : String} {As : List Value} {v : Int32} {w : Int64}
theorem s_nmO {o : Option Nat} {a : Nat} (h : o = some a) (kk : W p l e R s m args below meth c H locs cells slots Q (F0 m pc ls (.ref (ad a) :: rest))) : W p l e R s m args below meth c H locs cells slots Q (F0 m pc ls (va_rf (Option.map ad o) :: rest)) := by subst h; exact kk
/-- a field of a singer, of whatever class he is -/
theorem s_getSg {ref : String} (hx : p.tables.exec = Jvm.exec) (hb : c.code = cc) (hu : ∀ w ∈ UU, w.before args s = true) (hown : s.vm.findClass own = some m.cls) (hK : KS D cy s) (hI : IS D K sh ad cy X A H0 H locs G L O) (hE : SgH S K sh k) (j : Nat) (hj : j < 3) (hlink : Cond.fieldLink own index ref (TX7 j).2.1 "I" ∈ UU) (hsame : ∀ x, s.fieldFound? "NobodyBreathes$Singer" (TX7 j).2.1 "I" = some x → s.fieldFound? ref (TX7 j).2.1 "I" = some x) (hdg : decode cc pc = .ok (.getfield index, 3))
    (kk : W p l e R s m args below meth c H locs cells slots Q (F0 m (pc + 3) ls (.int (G k j) :: rest))) : W p l e R s m args below meth c H locs cells slots Q (F0 m pc ls (.ref (ad k) :: rest)) := by
  obtain ⟨⟨h1, h2⟩, h3⟩ := hE
  rcases sg_cases h3 with q | q | q | q | q | q <;> rw [q] at h2
  · match j, hj with
    | 0, hj => exact s_get (v := .int (G k 0)) hx hb hu inU0 hown hK hI ⟨h1, h2⟩ rfl 0 hj hlink hsame rfl rfl hdg kk
    | 1, hj => exact s_get (v := .int (G k 1)) hx hb hu inU0 hown hK hI ⟨h1, h2⟩ rfl 1 hj hlink hsame rfl rfl hdg kk
    | 2, hj => exact s_get (v := .int (G k 2)) hx hb hu inU0 hown hK hI ⟨h1, h2⟩ rfl 2 hj hlink hsame rfl rfl hdg kk
  · match j, hj with
    | 0, hj => exact s_get (v := .int (G k 0)) hx hb hu inU2 hown hK hI ⟨h1, h2⟩ rfl 0 hj hlink hsame rfl rfl hdg kk
    | 1, hj => exact s_get (v := .int (G k 1)) hx hb hu inU2 hown hK hI ⟨h1, h2⟩ rfl 1 hj hlink hsame rfl rfl hdg kk
    | 2, hj => exact s_get (v := .int (G k 2)) hx hb hu inU2 hown hK hI ⟨h1, h2⟩ rfl 2 hj hlink hsame rfl rfl hdg kk
  · match j, hj with
    | 0, hj => exact s_get (v := .int (G k 0)) hx hb hu inU3 hown hK hI ⟨h1, h2⟩ rfl 0 hj hlink hsame rfl rfl hdg kk
    | 1, hj => exact s_get (v := .int (G k 1)) hx hb hu inU3 hown hK hI ⟨h1, h2⟩ rfl 1 hj hlink hsame rfl rfl hdg kk
    | 2, hj => exact s_get (v := .int (G k 2)) hx hb hu inU3 hown hK hI ⟨h1, h2⟩ rfl 2 hj hlink hsame rfl rfl hdg kk
  · match j, hj with
    | 0, hj => exact s_get (v := .int (G k 0)) hx hb hu inU7 hown hK hI ⟨h1, h2⟩ rfl 0 hj hlink hsame rfl rfl hdg kk
    | 1, hj => exact s_get (v := .int (G k 1)) hx hb hu inU7 hown hK hI ⟨h1, h2⟩ rfl 1 hj hlink hsame rfl rfl hdg kk
    | 2, hj => exact s_get (v := .int (G k 2)) hx hb hu inU7 hown hK hI ⟨h1, h2⟩ rfl 2 hj hlink hsame rfl rfl hdg kk
  · match j, hj with
    | 0, hj => exact s_get (v := .int (G k 0)) hx hb hu inU8 hown hK hI ⟨h1, h2⟩ rfl 0 hj hlink hsame rfl rfl hdg kk
    | 1, hj => exact s_get (v := .int (G k 1)) hx hb hu inU8 hown hK hI ⟨h1, h2⟩ rfl 1 hj hlink hsame rfl rfl hdg kk
    | 2, hj => exact s_get (v := .int (G k 2)) hx hb hu inU8 hown hK hI ⟨h1, h2⟩ rfl 2 hj hlink hsame rfl rfl hdg kk
  · match j, hj with
    | 0, hj => exact s_get (v := .int (G k 0)) hx hb hu inU10 hown hK hI ⟨h1, h2⟩ rfl 0 hj hlink hsame rfl rfl hdg kk
    | 1, hj => exact s_get (v := .int (G k 1)) hx hb hu inU10 hown hK hI ⟨h1, h2⟩ rfl 1 hj hlink hsame rfl rfl hdg kk
    | 2, hj => exact s_get (v := .int (G k 2)) hx hb hu inU10 hown hK hI ⟨h1, h2⟩ rfl 2 hj hlink hsame rfl rfl hdg kk
theorem s_mmax (E : Cx p s m args meth c own cc nL rt) (hls : ls.size = nL) {x z : Int32} (hl : Cond.methodLink own index yJ9_max_7cf53 ∈ UU) (h2 : Cond.static yJ9_max_7cf53 ∈ UU) (h4 : Cond.initialized RJ9 ∈ UU) (h5 : Cond.code yJ9_max_7cf53 cJ9_max_7cf53 2 (some FieldType.int) ∈ UU) (hlv : 1 ≤ lv') (hW : (rest.map fun v => v.category).sum ≤ 8) (hf : cells ≤ cs ∧ slots ≤ ss) (hdg : decode cc pc = .ok (.invokestatic index, 3))
    (kk : W p l e (rmX lv' cs ss) s m args below meth c H locs cells slots Q (F0 m (pc + 3) ls (.int (if x < z then z else x) :: rest))) : W p l e (rmX lv' cs ss) s m args below meth c H locs cells slots Q (F0 m pc ls (.int z :: .int x :: rest)) := by
  obtain ⟨hx, hb, hr, hml, hown, hu, hlocks⟩ := E
  exact va_mmax hx hb (hml.trans hls.symm) hown (hu _ hl) (hu _ h2) (hu _ h4) (hu _ h5) hlv (by show _ + 13 ≤ 40 * lv'; omega) hf.1 hf.2 hdg kk
theorem s_mmin (E : Cx p s m args meth c own cc nL rt) (hls : ls.size = nL) {x z : Int32} (hl : Cond.methodLink own index yJ9_min_7cf53 ∈ UU) (h2 : Cond.static yJ9_min_7cf53 ∈ UU) (h4 : Cond.initialized RJ9 ∈ UU) (h5 : Cond.code yJ9_min_7cf53 cJ9_min_7cf53 2 (some FieldType.int) ∈ UU) (hlv : 1 ≤ lv') (hW : (rest.map fun v => v.category).sum ≤ 8) (hf : cells ≤ cs ∧ slots ≤ ss) (hdg : decode cc pc = .ok (.invokestatic index, 3))
    (kk : W p l e (rmX lv' cs ss) s m args below meth c H locs cells slots Q (F0 m (pc + 3) ls (.int (if z < x then z else x) :: rest))) : W p l e (rmX lv' cs ss) s m args below meth c H locs cells slots Q (F0 m pc ls (.int z :: .int x :: rest)) := by
  obtain ⟨hx, hb, hr, hml, hown, hu, hlocks⟩ := E
  exact va_mmin hx hb (hml.trans hls.symm) hown (hu _ hl) (hu _ h2) (hu _ h4) (hu _ h5) hlv (by show _ + 13 ≤ 40 * lv'; omega) hf.1 hf.2 hdg kk
/-- copying ints from one array to another, or within one -/
def cpB (sp dp len : Int32) (n0 n1 : Nat) : Bool := decide (¬ sp < 0 ∧ ¬ dp < 0 ∧ ¬ len < 0 ∧ sp.toNatClampNeg + len.toNatClampNeg ≤ n0 ∧ dp.toNatClampNeg + len.toNatClampNeg ≤ n1)
def cpG (G : Mem) (a b : Nat) (sp dp len : Int32) : Mem := fun q => if q = b then va_cpy (G a) (G b) sp.toNatClampNeg dp.toNatClampNeg len.toNatClampNeg else G q
theorem s_copyi {k2 n2 : Nat} {fl2 : List Nat} {sp dp len : Int32} (E : Cx p s m args meth c own cc nL rt) (hK : KS D cy s) (hI : IS D K sh ad cy X A H0 H locs G L O) (hls : ls.size = nL) (hl : Cond.methodLink own index arraycopyName ∈ UU) (hnat : Cond.native arraycopyName ∈ UU) (h2 : Cond.static arraycopyName ∈ UU) (h4 : Cond.initialized RJ10 ∈ UU) (hE : k ∈ K ∧ sh k = (1, n, fl)) (hE2 : k2 ∈ K ∧ sh k2 = (1, n2, fl2)) (hc : cpB sp dp len n n2 = true) {G1 : Mem} (hG : G1 = cpG G k k2 sp dp len) (hlv : 1 ≤ lv') (hW : (rest.map fun v => v.category).sum ≤ 8) (hdg : decode cc pc = .ok (.invokestatic index, 3))
    (kk : ∀ (H : Heap) (locs : List Loc), IS D K sh ad cy X A H0 H locs G1 L O → W p l e (rmX lv' cs ss) s m args below meth c H locs cells slots Q (F0 m (pc + 3) ls rest)) : W p l e (rmX lv' cs ss) s m args below meth c H locs cells slots Q (F0 m pc ls (.int len :: .int dp :: .ref (ad k2) :: .int sp :: .ref (ad k) :: rest)) := by
  obtain ⟨hx, hb, hr, hml, hown, hu, hlocks⟩ := E
  obtain ⟨hP, hD, hS⟩ := hI
  obtain ⟨q, hq, hKq⟩ := wS_at (sh := sh) (ad := ad) (cy := cy) (G := G) (L := L) (O := O) (X := X) hE.1
  obtain ⟨q2, hq2, hKq2⟩ := wS_at (sh := sh) (ad := ad) (cy := cy) (G := G) (L := L) (O := O) (X := X) hE2.1
  rw [entE_1 hE.2] at hq
  rw [entE_1 hE2.2] at hq2
  obtain ⟨h1, h2', h3, h4', h5⟩ := of_decide_eq_true hc
  subst hG
  refine va_copyi hx hb (hml.trans hls.symm) hown (hu _ hl) (hu _ hnat) (hu _ h2) (hu _ h4) hK.1 hP hD hS q q2 0 0 hq hq2 rfl rfl rfl h1 h2' h3 h4' h5 (fun _ _ => rfl) hlv (by have e1 : nativeFrameWords "java/lang/System" "arraycopy" 5 ≤ 20 := (by decide); show _ + (nativeFrameWords "java/lang/System" "arraycopy" 5 + 11) ≤ 40 * lv'; omega) hdg (fun H1 locs1 hP1 hD1 hS1 => ?_)
  have h1 : (ad k2, (Sum.inl (cy 1, (n2, .inl (va_cpy (G k) (G k2) sp.toNatClampNeg dp.toNatClampNeg len.toNatClampNeg))) : va_E)) = (ad k2, entE k2 (sh k2) ad cy (cpG G k k2 sp dp len) L O) := by
    rw [entE_1 hE2.2]
    simp [cpG]
  rw [h1, wS_set hD hKq2 (fun j hj => by simp [cpG, hj]) (fun _ _ => rfl) (fun _ _ => rfl)] at hP1
  exact kk H1 locs1 ⟨hP1, wS_D hD, hS1⟩
-- calls on singers
theorem s_cwO {b0 : ByteArray} {m0 : Nat} {r0 : Option FieldType} {mc ms : Nat} (hu : ∀ w ∈ UU, w.before args s = true) (hy : Ky y bytes maxL ret np) (hlv : lv + 1 ≤ lv') (l1 : Cond.methodLink own index x ∈ UU) (l2 : Cond.sameMethod x.cls owner x.name x.desc ∈ UU) (l3 : Cond.instanceMethod ⟨owner, x.name, x.desc⟩ ∈ UU) (l4 : Cond.selects C x y ∈ UU) (l5 : Cond.instanceMethod y ∈ UU) (h0 : Cond.code ⟨owner, x.name, x.desc⟩ b0 m0 r0 ∈ UU) (hd : owner ≠ "java/lang/invoke/MethodHandle" ∧ owner ≠ "java/lang/invoke/VarHandle" ∧ (parseMethodDescriptor x.desc).map (fun d => d.parameters.length) = some np) : va_CU (rmX lv' cs ss) s args own C owner index x y bytes maxL ret (wsU y bytes maxL ret) (rmX lv mc ms) mc ms np := by
  obtain ⟨h5, h4, hm, -⟩ := hy
  have hG := uu_words h5
  refine va_cwO np hu (fun w hw => ?_) rfl rfl rfl h0 hd ⟨hlv, by show 8 + (maxL + 11) + 40 * lv ≤ 40 * lv'; omega⟩
  unfold va_wsO at hw
  rcases List.mem_append.mp hw with h | h
  · simp only [List.mem_cons, List.not_mem_nil, or_false] at h
    have hm : w ∈ UU := by rcases h with rfl | rfl | rfl | rfl | rfl | rfl <;> assumption
    exact ⟨hm, good_of_word (uu_good w hm)⟩
  · exact hG w h
theorem s_cwUi {mc ms : Nat} (hu : ∀ w ∈ UU, w.before args s = true) (hy : Ky y bytes maxL ret np) (hlv : lv + 1 ≤ lv') (l1 : Cond.methodLink own index x ∈ UU) (l2 : Cond.sameMethod x.cls owner x.name x.desc ∈ UU) (l4 : Cond.selects C x y ∈ UU) (l5 : Cond.instanceMethod y ∈ UU) (hyx : y = ⟨owner, x.name, x.desc⟩) (hd : owner ≠ "java/lang/invoke/MethodHandle" ∧ owner ≠ "java/lang/invoke/VarHandle" ∧ (parseMethodDescriptor x.desc).map (fun d => d.parameters.length) = some np) : va_CU (rmX lv' cs ss) s args own C owner index x y bytes maxL ret (wsU y bytes maxL ret) (rmX lv mc ms) mc ms np := by
  obtain ⟨h5, h4, hm, -⟩ := hy
  have hG := uu_words h5
  refine va_cwU np hu (fun w hw => ?_) rfl rfl rfl hyx hd ⟨hlv, by show 8 + (maxL + 11) + 40 * lv ≤ 40 * lv'; omega⟩
  unfold va_wsU at hw
  rcases List.mem_append.mp hw with h | h
  · simp only [List.mem_cons, List.not_mem_nil, or_false] at h
    have hm : w ∈ UU := by rcases h with rfl | rfl | rfl | rfl | rfl <;> assumption
    exact ⟨hm, good_of_word (uu_good w hm)⟩
  · exact hG w h
theorem s_runU {Qc : Array Value → State → Outcome → State → Prop} {mc ms : Nat} {T : u_T} {N ci : Nat} (E : Cx p s m args meth c own cc nL rt) (hK : KS D cy s) (hI : IS D K sh ad cy X A s.heap H locs G L O) (hBU : ∀ U : State, U.heap = H → s.WarmedH U.vm → B U) (hBb : ∀ (U : State) (g : JFrame) (mk : MethodId) (a : Array Value), B U → B (U.calling g mk a)) (hE : k ∈ K ∧ sh k = (0, ci, fl)) (hc : vwCl[ci]? = some (C, T, N))
    (hM : Met l y (wsU y bytes maxL ret) (rmX lv mc ms) (va_Pc (.ref (ad k) :: As) (PS D K sh ad cy X B G L O)) Qc mc ms (AS K ad X)) (cw : va_CU (rmX lv' cs ss) s args own C owner index x y bytes maxL ret (wsU y bytes maxL ret) (rmX lv mc ms) mc ms np) (hn : As.length = np) (hls : ls.size = nL) (hst : st0 = As.reverse ++ .ref (ad k) :: rest) (hW : (rest.map fun v => v.category).sum ≤ 8) (hf : cells + mc ≤ cs ∧ slots + ms ≤ ss) (hdg : decode cc pc = .ok (.invokevirtual index, 3)) :
    va_Run p l e (rmX lv' cs ss) s m args below meth c H locs cells slots mc ms (F0 m pc ls st0) rest (Qc (Value.ref (ad k) :: As).toArray) (AS K ad X) := by
  obtain ⟨hx, hb, hr, hml, hown, hu, hlocks⟩ := E
  obtain ⟨q, hq, -⟩ := wS_at (sh := sh) (ad := ad) (cy := cy) (G := G) (L := L) (O := O) (X := X) hE.1
  rw [entE_o hE.2] at hq
  obtain ⟨hP, hD, hS⟩ := hI
  exact va_runU (C := C) (As := As) (rest := rest) ⟨hx, hb, hml, hown, hu⟩ hM cw ⟨PS_blind hBb, va_recv hK.1 hP hc hq, fun U hU hW => ⟨rfl, by rw [hU]; exact hP, hD.weaken (fun _ _ _ _ => trivial), hK.warm hW, hBU U hU hW⟩⟩ rfl hn hls hst (lv_room hW) hdg hf
theorem s_runSU {Qc : Array Value → State → Outcome → State → Prop} {mc ms : Nat} (E : Cx p s m args meth c own cc nL rt) (hK : KS D cy s) (hI : IS D K sh ad cy X A s.heap H locs G L O) (hBU : ∀ U : State, U.heap = H → s.WarmedH U.vm → B U) (hBb : ∀ (U : State) (g : JFrame) (mk : MethodId) (a : Array Value), B U → B (U.calling g mk a)) (hE : SgH S K sh k)
    (hM : Met l y (wsU y bytes maxL ret) (rmX lv mc ms) (va_Pc (.ref (ad k) :: As) (PS D K sh ad cy X B G L O)) Qc mc ms (AS K ad X)) (hy : Ky y bytes maxL ret np) (hlv : lv + 1 ≤ lv') (l1 : Cond.methodLink own index y ∈ UU) (l2 : Cond.sameMethod y.cls y.cls y.name y.desc ∈ UU) (l3 : Cond.superclass own y.cls ∈ UU) (l4 : Cond.instanceMethod y ∈ UU) (hno : y.name ≠ "<init>") (hn : As.length = np) (hls : ls.size = nL) (hst : st0 = As.reverse ++ .ref (ad k) :: rest) (hW : (rest.map fun v => v.category).sum ≤ 8) (hf : cells + mc ≤ cs ∧ slots + ms ≤ ss) (hdg : decode cc pc = .ok (.invokespecial index, 3)) :
    va_Run p l e (rmX lv' cs ss) s m args below meth c H locs cells slots mc ms (F0 m pc ls st0) rest (Qc (Value.ref (ad k) :: As).toArray) (AS K ad X) := by
  obtain ⟨hx, hb, hr, hml, hown, hu, hlocks⟩ := E
  obtain ⟨⟨h1, h2⟩, h3⟩ := hE
  obtain ⟨h5, h4, hm, hd⟩ := hy
  obtain ⟨q, hq, -⟩ := wS_at (sh := sh) (ad := ad) (cy := cy) (G := G) (L := L) (O := O) (X := X) h1
  rw [entE_o h2] at hq
  obtain ⟨hP, hD, hS⟩ := hI
  have hc : ∃ r, vwCl[S k]? = some r := by
    rcases sg_cases h3 with q | q | q | q | q | q <;> rw [q] <;> exact ⟨_, rfl⟩
  obtain ⟨r, hc⟩ := hc
  have hG := uu_words h5
  refine va_runSU (C := r.1) (As := As) (rest := rest) (hK.1.1 _ r hc).2 ⟨hx, hb, hml, hown, hu⟩ hM (va_cwSU np hu (fun w hw => ?_) rfl rfl rfl ⟨hno, hd.2.2⟩ ⟨hlv, by show 8 + (maxL + 11) + 40 * lv ≤ 40 * lv'; omega⟩) ⟨PS_blind hBb, va_recv hK.1 hP hc hq, fun U hU hW => ⟨rfl, by rw [hU]; exact hP, hD.weaken (fun _ _ _ _ => trivial), hK.warm hW, hBU U hU hW⟩⟩ rfl hn hls hst (lv_room hW) hdg hf
  unfold va_wsSU at hw
  rcases List.mem_append.mp hw with h | h
  · simp only [List.mem_cons, List.not_mem_nil, or_false] at h
    have hm : w ∈ UU := by rcases h with rfl | rfl | rfl | rfl | rfl <;> assumption
    exact ⟨hm, good_of_word (uu_good w hm)⟩
  · exact hG w h
end LC
