-- closed stores: what is spoken of is there
def Cl (K : List Nat) (sh : Nat → Ent) : Prop := ∀ j ∈ K, ∀ r, r + 2 ∈ (sh j).2.2 → r ∈ K
def ORf (K : List Nat) (O : MemO) : Prop := ∀ j i a, O j i = some a → a ∈ K
theorem fr_of {K : List Nat} {sh : Nat → Ent} {O : MemO} {k : Nat} (h1 : Cl K sh) (h2 : ORf K O) (hk : k ∉ K) : Fr K sh O k := ⟨hk, fun j hj r hr e => hk (by rw [← e]; exact h1 j hj r hr), fun j _ i e => hk (h2 j i k e)⟩
theorem Cl.push {K : List Nat} {sh : Nat → Ent} {k : Nat} (h : Cl K sh) (hk : ∀ d ∈ (sh k).2.2, d < 2) : Cl (K ++ [k]) sh := by
  intro j hj r hr
  rcases List.mem_append.mp hj with hj | hj
  · exact List.mem_append_left _ (h j hj r hr)
  · rcases List.mem_singleton.mp hj with rfl
    have := hk _ hr
    omega
theorem ORf.mono {K K2 : List Nat} {O : MemO} (h : ORf K O) (hKK : ∀ k ∈ K, k ∈ K2) : ORf K2 O := fun j i a e => hKK a (h j i a e)
theorem ORf.zr {K : List Nat} {O : MemO} (k : Nat) (h : ORf K O) : ORf K (zr none O k) := by
  intro j i a e
  by_cases hj : j = k
  · subst hj; rw [zr_k] at e; cases e
  · rw [zr_n hj] at e; exact h j i a e
theorem ORf.up {K : List Nat} {O : MemO} {k j a : Nat} (h : ORf K O) (ha : a ∈ K) : ORf K (up2 O k j (some a)) := by
  intro b i c e
  by_cases hb : b = k
  · subst hb
    rw [up2_a] at e
    have e : (if i = j then some a else O b i) = some c := e
    by_cases hi : i = j
    · rw [if_pos hi] at e; cases e; exact ha
    · rw [if_neg hi] at e; exact h b i c e
  · rw [up2_n O _ _ hb] at e; exact h b i c e
theorem nin_push {K : List Nat} {k k2 : Nat} (h : k2 ∉ K) (hne : k2 ≠ k) : k2 ∉ K ++ [k] := fun q => (List.mem_append.mp q).elim h (fun z => hne (List.mem_singleton.mp z))
section LI
variable {p : Program} {l : Launch} {e : Env} {R : Room} {s : State} {m : MethodId} {args : Array Value} {below : List Frame} {meth : Method} {c : Code} {H H0 : Heap} {locs : List Loc} {cells slots : Nat} {Q : State → Prop}
variable {cc : ByteArray} {pc : Nat} {ls : Array Slot} {rest st0 : List Value} {D : va_G} {K : List Nat} {sh : Nat → Ent} {ad : Nat → Nat} {cy : Nat → ClassId} {X : va_W} {A : Nat → Prop} {B : State → Prop} {G G1 : Mem} {L L1 : MemL} {O O1 : MemO} {S : Nat → Nat} {k n : Nat} {fl : List Nat}
variable {y x : MethodName} {bytes : ByteArray} {maxL nL np index lv lv' cs ss : Nat} {ret rt : Option FieldType} {own C owner host : String} {As : List Value} {v : Int32} {w : Int64}
/-- Object's constructor -/
theorem s_objI {a : Nat} (E : Cx p s m args meth c own cc nL rt) (hls : ls.size = nL) (hl : Cond.methodLink own index objectInit ∈ UU) (h2 : Cond.instanceMethod objectInit ∈ UU) (h3 : Cond.code objectInit ⟨#[0xb1]⟩ 1 none ∈ UU) (hlv : 1 ≤ lv') (hW : (rest.map fun v => v.category).sum ≤ 8) (hdg : decode cc pc = .ok (.invokespecial index, 3)) (kk : W p l e (rmX lv' cs ss) s m args below meth c H locs cells slots Q (F0 m (pc + 3) ls rest)) : W p l e (rmX lv' cs ss) s m args below meth c H locs cells slots Q (F0 m pc ls (.ref a :: rest)) := by
  obtain ⟨hx, hb, hr, hml, hown, hu, hlocks⟩ := E
  exact W.objInit hx hb hown (hu _ hl) (hu _ h2) (hu _ h3) rfl (by rw [hml]; exact hls) rfl hdg hlv (by show 2 * 0 + _ + 12 ≤ 40 * lv'; omega) kk
/-- a final field of a singer, in the constructor -/
theorem s_putSgF (E : Cx p s m args meth c RX7 cc nL rt) (hni : meth.name = "<init>") (hK : KS D cy s) (hI : IS D K sh ad cy X A H0 H locs G L O) (hE : SgH S K sh k) (j : Nat) (hj : j < 3) (hlink : Cond.fieldLink RX7 index RX7 (TX7 j).2.1 "I" ∈ UU) {x : Int32} {G1 : Mem} (hG : G1 = up2 G k j x) (hdg : decode cc pc = .ok (.putfield index, 3))
    (kk : ∀ (H : Heap) (locs : List Loc), IS D K sh ad cy X A H0 H locs G1 L O → W p l e R s m args below meth c H locs cells slots Q (F0 m (pc + 3) ls rest)) : W p l e R s m args below meth c H locs cells slots Q (F0 m pc ls (.int x :: .ref (ad k) :: rest)) := by
  obtain ⟨⟨h1, h2⟩, h3⟩ := hE
  rcases sg_cases h3 with q | q | q | q | q | q <;> rw [q] at h2
  · match j, hj with
    | 0, hj => exact s_putF (ty := .int) E hni inU0 tyX0_ok nmX0 hK hI ⟨h1, h2⟩ rfl 0 hj hlink (fun _ h => h) rfl rfl rfl (tyX0_ok 0 hj) rfl rfl hG hdg kk
    | 1, hj => exact s_putF (ty := .int) E hni inU0 tyX0_ok nmX0 hK hI ⟨h1, h2⟩ rfl 1 hj hlink (fun _ h => h) rfl rfl rfl (tyX0_ok 1 hj) rfl rfl hG hdg kk
    | 2, hj => exact s_putF (ty := .int) E hni inU0 tyX0_ok nmX0 hK hI ⟨h1, h2⟩ rfl 2 hj hlink (fun _ h => h) rfl rfl rfl (tyX0_ok 2 hj) rfl rfl hG hdg kk
  · match j, hj with
    | 0, hj => exact s_putF (ty := .int) E hni inU2 tyX2_ok nmX2 hK hI ⟨h1, h2⟩ rfl 0 hj hlink (fun _ h => h) rfl rfl rfl (tyX2_ok 0 hj) rfl rfl hG hdg kk
    | 1, hj => exact s_putF (ty := .int) E hni inU2 tyX2_ok nmX2 hK hI ⟨h1, h2⟩ rfl 1 hj hlink (fun _ h => h) rfl rfl rfl (tyX2_ok 1 hj) rfl rfl hG hdg kk
    | 2, hj => exact s_putF (ty := .int) E hni inU2 tyX2_ok nmX2 hK hI ⟨h1, h2⟩ rfl 2 hj hlink (fun _ h => h) rfl rfl rfl (tyX2_ok 2 hj) rfl rfl hG hdg kk
  · match j, hj with
    | 0, hj => exact s_putF (ty := .int) E hni inU3 tyX3_ok nmX3 hK hI ⟨h1, h2⟩ rfl 0 hj hlink (fun _ h => h) rfl rfl rfl (tyX3_ok 0 hj) rfl rfl hG hdg kk
    | 1, hj => exact s_putF (ty := .int) E hni inU3 tyX3_ok nmX3 hK hI ⟨h1, h2⟩ rfl 1 hj hlink (fun _ h => h) rfl rfl rfl (tyX3_ok 1 hj) rfl rfl hG hdg kk
    | 2, hj => exact s_putF (ty := .int) E hni inU3 tyX3_ok nmX3 hK hI ⟨h1, h2⟩ rfl 2 hj hlink (fun _ h => h) rfl rfl rfl (tyX3_ok 2 hj) rfl rfl hG hdg kk
  · match j, hj with
    | 0, hj => exact s_putF (ty := .int) E hni inU7 tyX7_ok nmX7 hK hI ⟨h1, h2⟩ rfl 0 hj hlink (fun _ h => h) rfl rfl rfl (tyX7_ok 0 hj) rfl rfl hG hdg kk
    | 1, hj => exact s_putF (ty := .int) E hni inU7 tyX7_ok nmX7 hK hI ⟨h1, h2⟩ rfl 1 hj hlink (fun _ h => h) rfl rfl rfl (tyX7_ok 1 hj) rfl rfl hG hdg kk
    | 2, hj => exact s_putF (ty := .int) E hni inU7 tyX7_ok nmX7 hK hI ⟨h1, h2⟩ rfl 2 hj hlink (fun _ h => h) rfl rfl rfl (tyX7_ok 2 hj) rfl rfl hG hdg kk
  · match j, hj with
    | 0, hj => exact s_putF (ty := .int) E hni inU8 tyX8_ok nmX8 hK hI ⟨h1, h2⟩ rfl 0 hj hlink (fun _ h => h) rfl rfl rfl (tyX8_ok 0 hj) rfl rfl hG hdg kk
    | 1, hj => exact s_putF (ty := .int) E hni inU8 tyX8_ok nmX8 hK hI ⟨h1, h2⟩ rfl 1 hj hlink (fun _ h => h) rfl rfl rfl (tyX8_ok 1 hj) rfl rfl hG hdg kk
    | 2, hj => exact s_putF (ty := .int) E hni inU8 tyX8_ok nmX8 hK hI ⟨h1, h2⟩ rfl 2 hj hlink (fun _ h => h) rfl rfl rfl (tyX8_ok 2 hj) rfl rfl hG hdg kk
  · match j, hj with
    | 0, hj => exact s_putF (ty := .int) E hni inU10 tyX10_ok nmX10 hK hI ⟨h1, h2⟩ rfl 0 hj hlink (fun _ h => h) rfl rfl rfl (tyX10_ok 0 hj) rfl rfl hG hdg kk
    | 1, hj => exact s_putF (ty := .int) E hni inU10 tyX10_ok nmX10 hK hI ⟨h1, h2⟩ rfl 1 hj hlink (fun _ h => h) rfl rfl rfl (tyX10_ok 1 hj) rfl rfl hG hdg kk
    | 2, hj => exact s_putF (ty := .int) E hni inU10 tyX10_ok nmX10 hK hI ⟨h1, h2⟩ rfl 2 hj hlink (fun _ h => h) rfl rfl rfl (tyX10_ok 2 hj) rfl rfl hG hdg kk
theorem s_runIp {Qc : Array Value → State → Outcome → State → Prop} {mc ms : Nat} {b : Nat} (E : Cx p s m args meth c own cc nL rt) (hK : KS D cy s) (hI : IS D K sh ad cy X A s.heap H locs G L O) (hBU : ∀ U : State, U.heap = H → s.WarmedH U.vm → B U) (hBb : ∀ (U : State) (g : JFrame) (mk : MethodId) (a : Array Value), B U → B (U.calling g mk a))
    (hM : Met l y (wsU y bytes maxL none) (rmX lv mc ms) (va_Pc (.ref b :: As) (PS D K sh ad cy X B G L O)) Qc mc ms (AS K ad X)) (hy : Ky y bytes maxL none np) (hl : Cond.methodLink own index y ∈ UU) (h2 : Cond.instanceMethod y ∈ UU) (hni : y.name = "<init>") (hlv : lv + 1 ≤ lv') (hn : As.length = np) (hls : ls.size = nL) (hst : st0 = As.reverse ++ .ref b :: rest) (hW : (rest.map fun v => v.category).sum ≤ 8) (hf : cells + mc ≤ cs ∧ slots + ms ≤ ss) (hdg : decode cc pc = .ok (.invokespecial index, 3)) :
    va_Run p l e (rmX lv' cs ss) s m args below meth c H locs cells slots mc ms (F0 m pc ls st0) rest (Qc (Value.ref b :: As).toArray) (AS K ad X) := by
  obtain ⟨hx, hb, hr, hml, hown, hu, hlocks⟩ := E
  obtain ⟨hP, hD, hS⟩ := hI
  exact va_runI (As := As) (rest := rest) ⟨hx, hb, hml, hown, hu⟩ hM ⟨s_callB hu hy hlv hl, hni, hu _ h2⟩ ⟨PS_blind hBb, fun U hU hW => ⟨rfl, by rw [hU]; exact hP, hD.weaken (fun _ _ _ _ => trivial), hK.warm hW, hBU U hU hW⟩⟩ rfl hn hls hst (lv_room hW) hdg hf
end LI
