-- making: entities that come
def AZ (K : List Nat) (ad : Nat → Nat) (X : va_W) (sz : Nat) : Nat → Prop := fun q => AS K ad X q ∨ sz ≤ q
def zr {α : Type} (z : α) (G : Nat → Nat → α) (k : Nat) : Nat → Nat → α := fun b => if b = k then (fun _ => z) else G b
theorem zr_n {α : Type} {z : α} {G : Nat → Nat → α} {k b : Nat} (h : b ≠ k) : zr z G k b = G b := if_neg h
theorem zr_k {α : Type} {z : α} {G : Nat → Nat → α} {k : Nat} : zr z G k k = fun _ => z := if_pos rfl
def adU (ad : Nat → Nat) (k q : Nat) : Nat → Nat := fun b => if b = k then q else ad b
theorem va_D.perm {A : Nat → Prop} {w1 w2 : va_W} (h : ∀ i : Nat, ∀ x, w2[i]? = some x → ∃ j : Nat, w1[j]? = some x) (hn : (w2.map Prod.fst).Nodup) (hD : va_D A w1) : va_D A w2 := by
  refine ⟨fun i j p q hi hj hpq => ?_, fun k q hk => ?_⟩
  · have h1 : (w2.map Prod.fst)[i]? = some p.1 := by rw [List.getElem?_map, hi]; rfl
    have h2 : (w2.map Prod.fst)[j]? = some p.1 := by rw [List.getElem?_map, hj, hpq]; rfl
    have hl1 : i < (w2.map Prod.fst).length := (List.getElem?_eq_some_iff.mp h1).1
    have hl2 : j < (w2.map Prod.fst).length := (List.getElem?_eq_some_iff.mp h2).1
    have e1 := (List.getElem?_eq_some_iff.mp h1).2
    have e2 := (List.getElem?_eq_some_iff.mp h2).2
    rw [List.nodup_iff_pairwise_ne, List.pairwise_iff_getElem] at hn
    rcases Nat.lt_trichotomy i j with h3 | h3 | h3
    · exact absurd (e1.trans e2.symm) (hn i j hl1 hl2 h3)
    · exact h3
    · exact absurd (e2.trans e1.symm) (hn j i hl2 hl1 h3)
  · obtain ⟨j, hj⟩ := h k q hk
    exact hD.2 j q hj
theorem va_D.nodup {A : Nat → Prop} {w : va_W} (hD : va_D A w) : (w.map Prod.fst).Nodup := by
  rw [List.nodup_iff_pairwise_ne, List.pairwise_iff_getElem]
  intro i j hi hj hij e
  have hi' : i < w.length := by simpa using hi
  have hj' : j < w.length := by simpa using hj
  have h1 : w[i]? = some w[i] := List.getElem?_eq_getElem hi'
  have h2 : w[j]? = some w[j] := List.getElem?_eq_getElem hj'
  simp only [List.getElem_map] at e
  have := hD.1 i j _ _ h1 h2 e
  omega
theorem va_P.mem {D : va_G} {cl : List vw_C} {w1 w2 : va_W} {H : Heap} (h : ∀ x ∈ w2, x ∈ w1) (hP : va_P D cl w1 H) : va_P D cl w2 H := by
  intro k q hk
  obtain ⟨i, hi⟩ := List.getElem?_of_mem (h q (List.mem_of_getElem? hk))
  exact hP i q hi
theorem va_D.memP {A : Nat → Prop} {w1 w2 : va_W} (hp : w2.Perm w1) (hD : va_D A w1) : va_D A w2 :=
  va_D.perm (fun i x hi => List.getElem?_of_mem (hp.mem_iff.mp (List.mem_of_getElem? hi))) (((hp.map Prod.fst).nodup_iff).mpr (va_D.nodup hD)) hD
theorem wS_push {K : List Nat} {sh : Nat → Ent} {ad : Nat → Nat} {cy : Nat → ClassId} {G G' : Mem} {L L' : MemL} {O O' : MemO} {k q : Nat} (hk : k ∉ K) (hr : ∀ j ∈ K, ∀ r, r + 2 ∈ (sh j).2.2 → r ≠ k) (hO : ∀ j ∈ K, ∀ i, O j i ≠ some k) (hG : ∀ j, j ≠ k → G' j = G j) (hL : ∀ j, j ≠ k → L' j = L j) (hO' : ∀ j, j ≠ k → O' j = O j) :
    wS (K ++ [k]) sh (adU ad k q) cy G' L' O' = wS K sh ad cy G L O ++ [(q, entE k (sh k) (adU ad k q) cy G' L' O')] := by
  unfold wS
  rw [List.map_append]
  congr 1
  · apply List.map_congr_left
    intro j hj
    have hne : j ≠ k := fun e => hk (e ▸ hj)
    have h1 : adU ad k q j = ad j := if_neg hne
    rw [h1]
    have h2 : entE j (sh j) (adU ad k q) cy G' L' O' = entE j (sh j) ad cy G L O := by
      rw [entE_congr (hG j hne) (hL j hne) (hO' j hne)]
      have e1 : entF j (adU ad k q) G O (sh j).2.2 = entF j ad G O (sh j).2.2 := by
        unfold entF
        apply List.ext_getElem?
        intro i
        rw [List.getElem?_mapIdx, List.getElem?_mapIdx]
        cases hd : (sh j).2.2[i]? with
        | none => rfl
        | some d =>
          simp only [Option.map_some]
          congr 1
          match d with
          | 0 => rfl
          | 1 =>
            simp only [fval]
            cases ho : O j i with
            | none => rfl
            | some a =>
              have : a ≠ k := fun e => hO j hj i (by rw [ho, e])
              simp [adU, this]
          | r + 2 =>
            simp only [fval]
            have : r ≠ k := hr j hj r (List.mem_of_getElem? hd)
            simp [adU, this]
      have e2 : (fun i => (O j i).map (adU ad k q)) = fun i => (O j i).map ad := by
        funext i
        cases ho : O j i with
        | none => rfl
        | some a =>
          have : a ≠ k := fun e => hO j hj i (by rw [ho, e])
          simp [adU, this]
      unfold entE
      rw [e1, e2]
    rw [h2]
  · simp [adU]
/-- what has to hold that a further entity k can come: nobody speaks of it yet -/
def Fr (K : List Nat) (sh : Nat → Ent) (O : MemO) (k : Nat) : Prop := k ∉ K ∧ (∀ j ∈ K, ∀ r, r + 2 ∈ (sh j).2.2 → r ≠ k) ∧ ∀ j ∈ K, ∀ i, O j i ≠ some k
def okD : Nat → FieldType → Bool
  | 0, .int => true
  | 0, .boolean => true
  | 1, .object _ => true
  | 1, .array _ => true
  | _, _ => false
theorem okD_fs {k : Nat} {ad : Nat → Nat} {G : Mem} {O : MemO} {fl : List Nat} {N : Nat} {ty : Nat → FieldType} (hG : G k = fun _ => 0) (hO : O k = fun _ => none) (h : ∀ j, j < N → okD (fl.getD j 9) (ty j) = true) : ∀ j, j < N → defaultValue (ty j) = vp_V (entF k ad G O fl) j := by
  intro j hj
  have h1 := h j hj
  cases hd : fl[j]? with
  | none =>
    rw [List.getD_eq_getElem?_getD, hd] at h1
    cases h1
  | some d =>
    rw [List.getD_eq_getElem?_getD, hd] at h1
    have h2 : vp_V (entF k ad G O fl) j = fval k ad G O j d := by
      unfold vp_V
      rw [List.getD_eq_getElem?_getD, entF_at hd]
      rfl
    rw [h2]
    simp only [Option.getD_some] at h1
    revert h1
    match d with
    | 0 =>
      cases ty j <;> intro h1 <;> first | (cases h1; done) | (simp [fval, hG, defaultValue]; done) | rfl
    | 1 =>
      cases ty j <;> intro h1 <;> first | (cases h1; done) | (simp [fval, hO, defaultValue, va_rf]; done) | rfl
    | q + 2 => intro h1; cases ty j <;> cases h1
section LZ
variable {p : Program} {l : Launch} {e : Env} {R : Room} {s : State} {m : MethodId} {args : Array Value} {below : List Frame} {meth : Method} {c : Code} {H H0 : Heap} {locs : List Loc} {cells slots : Nat} {Q : State → Prop}
variable {cc : ByteArray} {pc : Nat} {ls : Array Slot} {rest st0 : List Value} {D : va_G} {K : List Nat} {sh : Nat → Ent} {ad : Nat → Nat} {cy : Nat → ClassId} {X : va_W} {A : Nat → Prop} {B : State → Prop} {G G1 : Mem} {L L1 : MemL} {O O1 : MemO} {S : Nat → Nat} {k n : Nat} {fl : List Nat}
variable {y x : MethodName} {bytes : ByteArray} {maxL nL np index lv lv' cs ss : Nat} {ret rt : Option FieldType} {own C owner host : String} {As : List Value} {v : Int32} {w : Int64}
theorem IS_push {q : Nat} {H1 : Heap} {G' : Mem} {L' : MemL} {O' : MemO} (hF : Fr K sh O k) (hG : ∀ j, j ≠ k → G' j = G j) (hL : ∀ j, j ≠ k → L' j = L j) (hO' : ∀ j, j ≠ k → O' j = O j) (hP : va_P D vwCl ((wS K sh ad cy G L O ++ X) ++ [(q, entE k (sh k) (adU ad k q) cy G' L' O')]) H1) (hD : va_D A ((wS K sh ad cy G L O ++ X) ++ [(q, entE k (sh k) (adU ad k q) cy G' L' O')])) (hS : va_S A H0 H1 locs) : IS D (K ++ [k]) sh (adU ad k q) cy X A H0 H1 locs G' L' O' := by
  have e := wS_push (sh := sh) (ad := ad) (cy := cy) (q := q) hF.1 hF.2.1 hF.2.2 hG hL hO'
  have hp : (wS (K ++ [k]) sh (adU ad k q) cy G' L' O' ++ X).Perm ((wS K sh ad cy G L O ++ X) ++ [(q, entE k (sh k) (adU ad k q) cy G' L' O')]) := by
    rw [e, List.append_assoc, List.append_assoc]
    exact List.Perm.append_left _ List.perm_append_comm
  exact ⟨va_P.mem (fun x hx => hp.mem_iff.mp hx) hP, va_D.memP hp hD, hS⟩
theorem s_newObj {T : u_T} {N ci : Nat} {ty : Nat → FieldType} (E : Cx p s m args meth c own cc nL rt) (hin : ∀ w ∈ u_ws C T N, w ∈ UU) (hty : ∀ k, k < N → parseFieldDescriptor (T k).2.2.1 = some (ty k)) (hcl : Cond.classLink own index C ∈ UU) (hinst : Cond.instantiable C N ∈ UU) (hini : Cond.initialized C ∈ UU) (hK : KS D cy s) (hI : IS D K sh ad cy X A H0 H locs G L O) (hA : ∀ q, H0.size ≤ q → A q) (hc : vwCl[ci]? = some (C, T, N)) (k : Nat) (hF : Fr K sh O k) (hsh : sh k = (0, ci, fl)) (hN : fl.length = N) (hd : ∀ j, j < N → okD (fl.getD j 9) (ty j) = true) (hf : cells + 1 ≤ R.cells ∧ slots + N ≤ R.slots) (hdg : decode cc pc = .ok (.new index, 3))
    (kk : ∀ (q : Nat) (H : Heap), IS D (K ++ [k]) sh (adU ad k q) cy X A H0 H locs (zr 0 G k) L (zr none O k) → W p l e R s m args below meth c H locs (cells + 1) (slots + N) Q (F0 m (pc + 3) ls (.ref q :: rest))) : W p l e R s m args below meth c H locs cells slots Q (F0 m pc ls rest) := by
  obtain ⟨hx, hb, hr, hml, hown, hu, hlocks⟩ := E
  obtain ⟨hP, hD, hS⟩ := hI
  have h0 : ∀ q, entE k (sh k) (adU ad k q) cy (zr 0 G k) L (zr none O k) = .inr (ci, entF k (adU ad k q) (zr 0 G k) (zr none O k) fl) := fun q => entE_o hsh
  have hfs : ∀ q, entF k (adU ad k q) (zr 0 G k) (zr none O k) fl = entF k (adU ad k 0) (zr 0 G k) (zr none O k) fl := by
    intro q
    unfold entF
    apply List.ext_getElem?
    intro i
    rw [List.getElem?_mapIdx, List.getElem?_mapIdx]
    cases hd1 : fl[i]? with
    | none => rfl
    | some d =>
      simp only [Option.map_some]
      congr 1
      match d with
      | 0 => rfl
      | 1 => simp [fval, zr]
      | r + 2 =>
        have hi : i < N := by rw [← hN]; exact (List.getElem?_eq_some_iff.mp hd1).1
        have h9 := hd i hi
        rw [List.getD_eq_getElem?_getD, hd1] at h9
        simp only [Option.getD_some] at h9
        cases ty i <;> cases h9
  refine va_new (fs := entF k (adU ad k 0) (zr 0 G k) (zr none O k) fl) hx hb hu hin ty hty hown (hu _ hcl) (hu _ hinst) (hu _ hini) hK.1 hP hD hS hA hc (okD_fs (ad := adU ad k 0) zr_k zr_k hd) hf.1 hf.2 hdg (fun q H1 hP1 hD1 hS1 => ?_)
  rw [← hfs q, ← h0 q] at hP1 hD1
  exact kk q H1 (IS_push hF (fun j hj => zr_n hj) (fun _ _ => rfl) (fun j hj => zr_n hj) hP1 hD1 hS1)
theorem s_newArr {atype : ArrayType} {ty : FieldType} {N t t0 : Nat} {a0 : vp_A} {G' : Mem} {L' : MemL} {O' : MemO} (E : Cx p s m args meth c own cc nL rt) (harr : Cond.arrayClass (newarray.typeOf atype) ∈ UU) (hty : newarray.typeOf atype = ty) (hK : KS D cy s) (hI : IS D K sh ad cy X A H0 H locs G L O) (hA : ∀ q, H0.size ≤ q → A q) (ht : (tysS cy)[t0]? = some (cy t, ty)) (hnm : ∀ cA, s.vm.findClass ("[" ++ (newarray.typeOf atype).toString) = some cA → s.vm.findClass ("[" ++ ty.toString) = some cA) (hprim : ∀ U cA, va_RA U cA ty → U.vm.findClass ("[" ++ ty.toString) = some cA) (k : Nat) (hF : Fr K sh O k) (he : ∀ q, entE k (sh k) (adU ad k q) cy G' L' O' = .inl (cy t, a0)) (hG : ∀ j, j ≠ k → G' j = G j) (hL : ∀ j, j ≠ k → L' j = L j) (hO : ∀ j, j ≠ k → O' j = O j) (ha : ∀ cA : ClassId, vp_cell cA a0 = arrV cA N (fun _ => defaultValue ty)) {n : Int32} (hn : ¬ n < 0) (hN : n.toNatClampNeg = N) (hbytes : N * componentBytes ty ≤ 536870912) (hf : cells + 1 ≤ R.cells ∧ slots + N ≤ R.slots) (hdg : decode cc pc = .ok (.newarray atype, 2))
    (kk : ∀ (q : Nat) (H : Heap), IS D (K ++ [k]) sh (adU ad k q) cy X A H0 H locs G' L' O' → W p l e R s m args below meth c H locs (cells + 1) (slots + N) Q (F0 m (pc + 2) ls (.ref q :: rest))) : W p l e R s m args below meth c H locs cells slots Q (F0 m pc ls (.int n :: rest)) := by
  obtain ⟨hx, hb, hr, hml, hown, hu, hlocks⟩ := E
  obtain ⟨hP, hD, hS⟩ := hI
  subst hty
  refine va_newaK hx hb (hu _ harr) rfl hdg rfl hn hN hbytes hf.1 hf.2 rfl fun H1 cA e1 z1 o1 hAr hNm => ?_
  have hcA : cA = cy t := Option.some.inj (hNm.symm.trans (hprim s _ (hK.1.2 t0 _ ht).2))
  subst hcA
  have hk : ∀ (k : Nat) (x : Nat × va_E), (wS K sh ad cy G L O ++ X)[k]? = some x → H1[x.1]? = H[x.1]? := fun k x hx => o1 x.1 ((hP k x hx).lt)
  have hP1 : va_P D vwCl ((wS K sh ad cy G L O ++ X) ++ [(H.size, entE k (sh k) (adU ad k H.size) cy G' L' O')]) H1 := by
    refine (hP.kept hk).app (fun k2 x hx => ?_)
    have hz : k2 < 1 := (List.getElem?_eq_some_iff.mp hx).1
    rw [show k2 = 0 by omega] at hx
    cases hx
    rw [he]
    show H1[H.size]? = some (vp_cell _ _)
    rw [ha]
    exact e1
  exact kk H.size H1 (IS_push hF hG hL hO hP1 (hD.push hP rfl (hA _ hS.1)) ⟨Nat.le_trans hS.1 (by omega), fun x h1 h2 => (o1 x (Nat.lt_of_lt_of_le h1 hS.1)).trans (hS.2.1 x h1 h2), hS.2.2⟩)
theorem s_newI {N : Nat} (E : Cx p s m args meth c own cc nL rt) (harr : Cond.arrayClass FieldType.int ∈ UU) (hK : KS D cy s) (hI : IS D K sh ad cy X A H0 H locs G L O) (hA : ∀ q, H0.size ≤ q → A q) (k : Nat) (hF : Fr K sh O k) (hsh : sh k = (1, N, fl)) {n : Int32} (hn : ¬ n < 0) (hN : n.toNatClampNeg = N) (hbytes : N ≤ 100000) (hf : cells + 1 ≤ R.cells ∧ slots + N ≤ R.slots) (hdg : decode cc pc = .ok (.newarray .int, 2))
    (kk : ∀ (q : Nat) (H : Heap), IS D (K ++ [k]) sh (adU ad k q) cy X A H0 H locs (zr 0 G k) L O → W p l e R s m args below meth c H locs (cells + 1) (slots + N) Q (F0 m (pc + 2) ls (.ref q :: rest))) : W p l e R s m args below meth c H locs cells slots Q (F0 m pc ls (.int n :: rest)) :=
  s_newArr (atype := .int) (ty := .int) (t := 1) (t0 := 0) (a0 := (N, .inl (fun _ => 0))) E harr rfl hK hI hA rfl (fun _ h => h) (fun U cA h => h) k hF (fun q => by rw [entE_1 hsh, zr_k]) (fun j hj => zr_n hj) (fun _ _ => rfl) (fun _ _ => rfl) (fun _ => rfl) hn hN (by show N * 4 ≤ _; omega) hf hdg kk
theorem s_newB {N : Nat} (E : Cx p s m args meth c own cc nL rt) (harr : Cond.arrayClass FieldType.byte ∈ UU) (hK : KS D cy s) (hI : IS D K sh ad cy X A H0 H locs G L O) (hA : ∀ q, H0.size ≤ q → A q) (k : Nat) (hF : Fr K sh O k) (hsh : sh k = (2, N, fl)) {n : Int32} (hn : ¬ n < 0) (hN : n.toNatClampNeg = N) (hbytes : N ≤ 100000) (hf : cells + 1 ≤ R.cells ∧ slots + N ≤ R.slots) (hdg : decode cc pc = .ok (.newarray .byte, 2))
    (kk : ∀ (q : Nat) (H : Heap), IS D (K ++ [k]) sh (adU ad k q) cy X A H0 H locs (zr 0 G k) L O → W p l e R s m args below meth c H locs (cells + 1) (slots + N) Q (F0 m (pc + 2) ls (.ref q :: rest))) : W p l e R s m args below meth c H locs cells slots Q (F0 m pc ls (.int n :: rest)) :=
  s_newArr (atype := .byte) (ty := .byte) (t := 2) (t0 := 1) (a0 := (N, .inl (fun _ => 0))) E harr rfl hK hI hA rfl (fun _ h => h) (fun U cA h => h) k hF (fun q => by rw [entE_2 hsh, zr_k]) (fun j hj => zr_n hj) (fun _ _ => rfl) (fun _ _ => rfl) (fun _ => rfl) hn hN (by show N * 1 ≤ _; omega) hf hdg kk
theorem s_newZ {N : Nat} (E : Cx p s m args meth c own cc nL rt) (harr : Cond.arrayClass FieldType.boolean ∈ UU) (hK : KS D cy s) (hI : IS D K sh ad cy X A H0 H locs G L O) (hA : ∀ q, H0.size ≤ q → A q) (k : Nat) (hF : Fr K sh O k) (hsh : sh k = (3, N, fl)) {n : Int32} (hn : ¬ n < 0) (hN : n.toNatClampNeg = N) (hbytes : N ≤ 100000) (hf : cells + 1 ≤ R.cells ∧ slots + N ≤ R.slots) (hdg : decode cc pc = .ok (.newarray .boolean, 2))
    (kk : ∀ (q : Nat) (H : Heap), IS D (K ++ [k]) sh (adU ad k q) cy X A H0 H locs (zr 0 G k) L O → W p l e R s m args below meth c H locs (cells + 1) (slots + N) Q (F0 m (pc + 2) ls (.ref q :: rest))) : W p l e R s m args below meth c H locs cells slots Q (F0 m pc ls (.int n :: rest)) :=
  s_newArr (atype := .boolean) (ty := .boolean) (t := 3) (t0 := 2) (a0 := (N, .inl (fun _ => 0))) E harr rfl hK hI hA rfl (fun _ h => h) (fun U cA h => h) k hF (fun q => by rw [entE_3 hsh, zr_k]) (fun j hj => zr_n hj) (fun _ _ => rfl) (fun _ _ => rfl) (fun _ => rfl) hn hN (by show N * 1 ≤ _; omega) hf hdg kk
theorem s_newC {N : Nat} (E : Cx p s m args meth c own cc nL rt) (harr : Cond.arrayClass FieldType.char ∈ UU) (hK : KS D cy s) (hI : IS D K sh ad cy X A H0 H locs G L O) (hA : ∀ q, H0.size ≤ q → A q) (k : Nat) (hF : Fr K sh O k) (hsh : sh k = (4, N, fl)) {n : Int32} (hn : ¬ n < 0) (hN : n.toNatClampNeg = N) (hbytes : N ≤ 100000) (hf : cells + 1 ≤ R.cells ∧ slots + N ≤ R.slots) (hdg : decode cc pc = .ok (.newarray .char, 2))
    (kk : ∀ (q : Nat) (H : Heap), IS D (K ++ [k]) sh (adU ad k q) cy X A H0 H locs (zr 0 G k) L O → W p l e R s m args below meth c H locs (cells + 1) (slots + N) Q (F0 m (pc + 2) ls (.ref q :: rest))) : W p l e R s m args below meth c H locs cells slots Q (F0 m pc ls (.int n :: rest)) :=
  s_newArr (atype := .char) (ty := .char) (t := 4) (t0 := 3) (a0 := (N, .inl (fun _ => 0))) E harr rfl hK hI hA rfl (fun _ h => h) (fun U cA h => h) k hF (fun q => by rw [entE_4 hsh, zr_k]) (fun j hj => zr_n hj) (fun _ _ => rfl) (fun _ _ => rfl) (fun _ => rfl) hn hN (by show N * 2 ≤ _; omega) hf hdg kk
theorem s_newL {N : Nat} (E : Cx p s m args meth c own cc nL rt) (harr : Cond.arrayClass FieldType.long ∈ UU) (hK : KS D cy s) (hI : IS D K sh ad cy X A H0 H locs G L O) (hA : ∀ q, H0.size ≤ q → A q) (k : Nat) (hF : Fr K sh O k) (hsh : sh k = (5, N, fl)) {n : Int32} (hn : ¬ n < 0) (hN : n.toNatClampNeg = N) (hbytes : N ≤ 100000) (hf : cells + 1 ≤ R.cells ∧ slots + N ≤ R.slots) (hdg : decode cc pc = .ok (.newarray .long, 2))
    (kk : ∀ (q : Nat) (H : Heap), IS D (K ++ [k]) sh (adU ad k q) cy X A H0 H locs G (zr 0 L k) O → W p l e R s m args below meth c H locs (cells + 1) (slots + N) Q (F0 m (pc + 2) ls (.ref q :: rest))) : W p l e R s m args below meth c H locs cells slots Q (F0 m pc ls (.int n :: rest)) :=
  s_newArr (atype := .long) (ty := .long) (t := 5) (t0 := 4) (a0 := (N, .inr (.inl (fun _ => 0)))) E harr rfl hK hI hA rfl (fun _ h => h) (fun U cA h => h) k hF (fun q => by rw [entE_l hsh, zr_k]) (fun _ _ => rfl) (fun j hj => zr_n hj) (fun _ _ => rfl) (fun _ => rfl) hn hN (by show N * 8 ≤ _; omega) hf hdg kk
theorem adU_in {ad : Nat → Nat} {k q : Nat} {K : List Nat} {b : Nat} (hb : b ∈ K) (hk : k ∉ K) : adU ad k q b = ad b := if_neg (fun (e : b = k) => hk (by rw [← e]; exact hb))
theorem adU_k {ad : Nat → Nat} {k q : Nat} : adU ad k q k = q := if_pos rfl
/-- the frame of what makes: the cells of the world, and all that come -/
theorem Bcl.mono {A A' : Nat → Prop} (h : Bcl A B) (hAA : ∀ q, A' q → A q) : Bcl A' B := ⟨fun s U hW hz hk hB => h.1 s U hW hz (fun q h1 h2 => hk q h1 (fun z => h2 (hAA q z))) hB, h.2⟩
/-- what comes back from a method that makes -/
def QZ (D : va_G) (K : List Nat) (ad : Nat → Nat) (cy : Nat → ClassId) (X : va_W) (A : Nat → Prop) (K1 : List Nat) (Hy : (Nat → Ent) → Prop) (G1 : Mem) (L1 : MemL) (O1 : MemO) (val : (Nat → Nat) → Option Value) : Array Value → State → Outcome → State → Prop := fun _ st o t => ∃ (ad1 : Nat → Nat) (sh1 : Nat → Ent), (∀ k ∈ K, ad1 k = ad k) ∧ Hy sh1 ∧ o = .returned (val ad1) ∧ va_P D vwCl (wS K1 sh1 ad1 cy G1 L1 O1 ++ X) t.heap ∧ va_D A (wS K1 sh1 ad1 cy G1 L1 O1 ++ X) ∧ va_F A st t
def PZ (sz : Nat) (D : va_G) (K : List Nat) (sh : Nat → Ent) (ad : Nat → Nat) (cy : Nat → ClassId) (X : va_W) (B : State → Prop) (G : Mem) (L : MemL) (O : MemO) (U : State) : Prop := U.heap.size = sz ∧ PS D K sh ad cy X B G L O U
set_option maxHeartbeats 1000000 in
theorem s_metZ {mL sz mc ms : Nat} {vs : List Value} {Qc : Array Value → State → Outcome → State → Prop} (hy : plainName y.cls = true) (hn : (lg_sl vs).length ≤ mL)
    (body : ∀ (p : Program) (e : Env) (s : State) (m : MethodId) (args : Array Value) (below : List Frame) (meth : Method) (c : Code) (ls : Array Slot) (H : Heap) (locs : List Loc) (A0 : Nat → Prop), A0 = AZ K ad X sz → (∀ q, s.heap.size ≤ q → A0 q) → Cx p s m args meth c y.cls cc mL ret → KS D cy s → B s → meth.name = y.name → IS D K sh ad cy X A0 s.heap H locs G L O → lv_has ls mL (lv_args 0 vs) →
      W p l e (rmX lv mc ms) s m args below meth c H locs 0 0 (MQ below Qc args s mc ms A0) (F0 m 0 ls [])) :
    Met l y (wsU y cc mL ret) (rmX lv mc ms) (va_Pc vs (PZ sz D K sh ad cy X B G L O)) Qc mc ms (AZ K ad X sz) := by
  refine Met.ofW (cc := cc) (maxL := mL) (ret := ret) hy rfl ?_
  intro p e s m args below meth c s₁ E hml hv
  obtain ⟨rfl, hsz, hP, hD, hK, hB⟩ := hv
  have hts := atoms_spec (ws := wsU y cc mL ret) E.pre
  rw [lg_entry_eq]
  exact body p e s m _ below meth c _ s.heap [] (AZ K ad X sz) rfl (fun q h => Or.inr (by rw [← hsz]; exact h)) ⟨E.exec, E.bytes, E.returns, hml, findClass_of_methodNamed E.named, fun w h => hts w (List.mem_cons_of_mem _ h), E.notSynchronized⟩ hK hB (name_of_methodNamed E.named E.method).1 ⟨hP, (AS_self hD).weaken (fun _ _ _ h => Or.inl h), va_S.rf⟩ (lv_entry vs hn)
theorem PZ_blind {sz : Nat} {vs : List Value} (hB : ∀ (U : State) (g : JFrame) (mk : MethodId) (a : Array Value), B U → B (U.calling g mk a)) : FrameBlind (va_Pc vs (PZ sz D K sh ad cy X B G L O)) := fun a U g mk q => ⟨q.1, q.2.1, q.2.2.1, q.2.2.2.1, KS.calling g mk a q.2.2.2.2.1, hB _ _ _ _ q.2.2.2.2.2⟩
-- ends of methods that make
theorem s_retZ {sh1 : Nat → Ent} {ad1 : Nat → Nat} {K0 K1 : List Nat} {Hy : (Nat → Ent) → Prop} {val : (Nat → Nat) → Option Value} {o : Option Value} {a : Array Value} {t : State} (had : ∀ k ∈ K0, ad1 k = ad k) (hHy : Hy sh1) (ho : val ad1 = o) (hI : IS D K1 sh1 ad1 cy X A s.heap H locs G1 L1 O1) (ht : t.heap = H) : QZ D K0 ad cy X A K1 Hy G1 L1 O1 val a s (.returned o) t := ⟨ad1, sh1, had, hHy, by rw [ho], by rw [ht]; exact hI.1, hI.2.1, hI.2.2.F ht⟩
theorem s_vretZ {sh1 : Nat → Ent} {ad1 : Nat → Nat} {K0 K1 : List Nat} {Hy : (Nat → Ent) → Prop} {val : (Nat → Nat) → Option Value} (E : Cx p s m args meth c own cc nL none) (had : ∀ k ∈ K0, ad1 k = ad k) (hHy : Hy sh1) (ho : val ad1 = none) (hI : IS D K1 sh1 ad1 cy X A s.heap H locs G1 L1 O1) (hdg : decode cc pc = .ok (.return_, 1)) : W p l e R s m args below meth c H locs cells slots (MQ below (QZ D K0 ad cy X A K1 Hy G1 L1 O1 val) args s cells slots A) (F0 m pc ls []) :=
  W.vret E.1 E.2.1 E.2.2.1 (fun t ht hW => s_retZ had hHy ho hI ht) hI.2.2.2.2 hdg E.2.2.2.2.2.2
theorem s_iretZ {sh1 : Nat → Ent} {ad1 : Nat → Nat} {K0 K1 : List Nat} {Hy : (Nat → Ent) → Prop} {val : (Nat → Nat) → Option Value} (E : Cx p s m args meth c own cc nL (some .int)) (had : ∀ k ∈ K0, ad1 k = ad k) (hHy : Hy sh1) (ho : val ad1 = some (.int v)) (hI : IS D K1 sh1 ad1 cy X A s.heap H locs G1 L1 O1) (hdg : decode cc pc = .ok (.ireturn, 1)) : W p l e R s m args below meth c H locs cells slots (MQ below (QZ D K0 ad cy X A K1 Hy G1 L1 O1 val) args s cells slots A) (F0 m pc ls [.int v]) :=
  W.iret E.1 E.2.1 E.2.2.1 (fun t ht hW => s_retZ had hHy ho hI ht) hI.2.2.2.2 hdg E.2.2.2.2.2.2
theorem s_aretZ {v0 : Value} {rt0 : FieldType} {sh1 : Nat → Ent} {ad1 : Nat → Nat} {K0 K1 : List Nat} {Hy : (Nat → Ent) → Prop} {val : (Nat → Nat) → Option Value} (E : Cx p s m args meth c own cc nL (some rt0)) (hrt : (∃ n, rt0 = .object n) ∨ ∃ t, rt0 = .array t) (hv : v0 = .null ∨ ∃ a, v0 = .ref a) (had : ∀ k ∈ K0, ad1 k = ad k) (hHy : Hy sh1) (ho : val ad1 = some v0) (hI : IS D K1 sh1 ad1 cy X A s.heap H locs G1 L1 O1) (hdg : decode cc pc = .ok (.areturn, 1)) : W p l e R s m args below meth c H locs cells slots (MQ below (QZ D K0 ad cy X A K1 Hy G1 L1 O1 val) args s cells slots A) (F0 m pc ls [v0]) :=
  W.aret E.1 E.2.1 E.2.2.1 hrt hv (fun t ht hW => s_retZ had hHy ho hI ht) hI.2.2.2.2 hdg E.2.2.2.2.2.2
/-- behind a call of a method that makes -/
theorem s_afZ {mc ms : Nat} {a : Array Value} {K1 : List Nat} {Hy : (Nat → Ent) → Prop} {val : (Nat → Nat) → Option Value} (hA : ∀ q, s.heap.size ≤ q → A q) (hI : IS D K sh ad cy X A s.heap H locs G L O) (hr : va_Run p l e R s m args below meth c H locs cells slots mc ms (F0 m pc ls st0) rest (QZ D K ad cy X (AZ K ad X H.size) K1 Hy G1 L1 O1 val a) (AZ K ad X H.size))
    (kk : ∀ (ad1 : Nat → Nat) (sh1 : Nat → Ent) (H : Heap) (locs : List Loc), (∀ k ∈ K, ad1 k = ad k) → Hy sh1 → IS D K1 sh1 ad1 cy X A s.heap H locs G1 L1 O1 → W p l e R s m args below meth c H locs (cells + mc) (slots + ms) Q (F0 m (pc + 3) ls ((val ad1).toList ++ rest))) : W p l e R s m args below meth c H locs cells slots Q (F0 m pc ls st0) := by
  obtain ⟨hP, hD, hS⟩ := hI
  have hAA : ∀ q, AZ K ad X H.size q → A q := by
    intro q h
    rcases h with h | h
    · exact AS_D hD q h
    · exact hA q (Nat.le_trans hS.1 h)
  intro T hT X0
  obtain ⟨v, st₀, t, T', Lo, h0, X', hL, e1, e2, ⟨ad1, sh1, had, hHy, hv, hP1, hD1, hz, hk⟩, st⟩ := hr T hT X0
  cases hv
  rw [h0] at hz hk
  obtain ⟨t2, a1, b1⟩ := kk ad1 sh1 T'.heap (locs ++ Lo) had hHy ⟨by rw [e1]; exact hP1, hD1.weaken (fun _ q _ h => hAA q.1 h), ⟨Nat.le_trans hS.1 (by rw [e1]; exact hz), fun q h1 h2 => by rw [e1, hk q (Nat.lt_of_lt_of_le h1 hS.1) (fun z => h2 (hAA q z))]; exact hS.2.1 q h1 h2, fun q hq => by
      rcases List.mem_append.mp hq with h | h
      · exact hS.2.2 q h
      · exact hAA _ (hL q h)⟩⟩ T' rfl X'
  exact ⟨t2, st t2 a1, b1⟩
theorem s_runI {Qc : Array Value → State → Outcome → State → Prop} {mc ms : Nat} {b : Nat} (E : Cx p s m args meth c own cc nL rt) (hK : KS D cy s) (hI : IS D K sh ad cy X A s.heap H locs G L O) (hBU : ∀ U : State, U.heap = H → s.WarmedH U.vm → B U) (hBb : ∀ (U : State) (g : JFrame) (mk : MethodId) (a : Array Value), B U → B (U.calling g mk a))
    (hM : Met l y (wsU y bytes maxL none) (rmX lv mc ms) (va_Pc (.ref b :: As) (PZ H.size D K sh ad cy X B G L O)) Qc mc ms (AZ K ad X H.size)) (hy : Ky y bytes maxL none np) (hl : Cond.methodLink own index y ∈ UU) (h2 : Cond.instanceMethod y ∈ UU) (hni : y.name = "<init>") (hlv : lv + 1 ≤ lv') (hn : As.length = np) (hls : ls.size = nL) (hst : st0 = As.reverse ++ .ref b :: rest) (hW : (rest.map fun v => v.category).sum ≤ 8) (hf : cells + mc ≤ cs ∧ slots + ms ≤ ss) (hdg : decode cc pc = .ok (.invokespecial index, 3)) :
    va_Run p l e (rmX lv' cs ss) s m args below meth c H locs cells slots mc ms (F0 m pc ls st0) rest (Qc (Value.ref b :: As).toArray) (AZ K ad X H.size) := by
  obtain ⟨hx, hb, hr, hml, hown, hu, hlocks⟩ := E
  obtain ⟨hP, hD, hS⟩ := hI
  exact va_runI (As := As) (rest := rest) ⟨hx, hb, hml, hown, hu⟩ hM ⟨s_callB hu hy hlv hl, hni, hu _ h2⟩ ⟨PZ_blind hBb, fun U hU hW => ⟨rfl, by rw [hU], by rw [hU]; exact hP, hD.weaken (fun _ _ _ _ => trivial), hK.warm hW, hBU U hU hW⟩⟩ rfl hn hls hst (lv_room hW) hdg hf
theorem s_runINz {Qc : Array Value → State → Outcome → State → Prop} {mc ms : Nat} {b : Nat} (E : Cx p s m args meth c own cc nL rt) (hK : KS D cy s) (hI : IS D K sh ad cy X A s.heap H locs G L O) (hBU : ∀ U : State, U.heap = H → s.WarmedH U.vm → B U) (hBb : ∀ (U : State) (g : JFrame) (mk : MethodId) (a : Array Value), B U → B (U.calling g mk a))
    (hM : Met l y (wsU y bytes maxL none) (rmX lv mc ms) (va_Pc (.ref b :: As) (PZ H.size D K sh ad cy X B G L O)) Qc mc ms (AZ K ad X H.size)) (hy : Ky y bytes maxL none np) (hl : (own, index, y, host) ∈ nestM) (h2 : Cond.instanceMethod y ∈ UU) (hni : y.name = "<init>") (hlv : lv + 1 ≤ lv') (hn : As.length = np) (hls : ls.size = nL) (hst : st0 = As.reverse ++ .ref b :: rest) (hW : (rest.map fun v => v.category).sum ≤ 8) (hf : cells + mc ≤ cs ∧ slots + ms ≤ ss) (hdg : decode cc pc = .ok (.invokespecial index, 3)) :
    va_Run p l e (rmX lv' cs ss) s m args below meth c H locs cells slots mc ms (F0 m pc ls st0) rest (Qc (Value.ref b :: As).toArray) (AZ K ad X H.size) := by
  obtain ⟨hx, hb, hr, hml, hown, hu, hlocks⟩ := E
  obtain ⟨hP, hD, hS⟩ := hI
  exact va_runIN (As := As) (rest := rest) ⟨hx, hb, hml, hown, hu⟩ hM ⟨s_callN hu hK hy hlv hl, hni, hu _ h2⟩ ⟨PZ_blind hBb, fun U hU hW => ⟨rfl, by rw [hU], by rw [hU]; exact hP, hD.weaken (fun _ _ _ _ => trivial), hK.warm hW, hBU U hU hW⟩⟩ rfl hn hls hst (lv_room hW) hdg hf
theorem s_runVz {Qc : Array Value → State → Outcome → State → Prop} {mc ms : Nat} {T : u_T} {N ci : Nat} (E : Cx p s m args meth c own cc nL rt) (hK : KS D cy s) (hI : IS D K sh ad cy X A s.heap H locs G L O) (hBU : ∀ U : State, U.heap = H → s.WarmedH U.vm → B U) (hBb : ∀ (U : State) (g : JFrame) (mk : MethodId) (a : Array Value), B U → B (U.calling g mk a)) (hE : k ∈ K ∧ sh k = (0, ci, fl)) (hc : vwCl[ci]? = some (C, T, N))
    (hM : Met l y (wsU y bytes maxL ret) (rmX lv mc ms) (va_Pc (.ref (ad k) :: As) (PZ H.size D K sh ad cy X B G L O)) Qc mc ms (AZ K ad X H.size)) (hy : Ky y bytes maxL ret np) (hl : Cond.methodLink own index y ∈ UU) (h2 : Cond.instanceMethod y ∈ UU) (h3 : Cond.selects C y y ∈ UU) (hlv : lv + 1 ≤ lv') (hn : As.length = np) (hls : ls.size = nL) (hst : st0 = As.reverse ++ .ref (ad k) :: rest) (hW : (rest.map fun v => v.category).sum ≤ 8) (hf : cells + mc ≤ cs ∧ slots + ms ≤ ss) (hdg : decode cc pc = .ok (.invokevirtual index, 3)) :
    va_Run p l e (rmX lv' cs ss) s m args below meth c H locs cells slots mc ms (F0 m pc ls st0) rest (Qc (Value.ref (ad k) :: As).toArray) (AZ K ad X H.size) := by
  obtain ⟨hx, hb, hr, hml, hown, hu, hlocks⟩ := E
  obtain ⟨q, hq, -⟩ := wS_at (sh := sh) (ad := ad) (cy := cy) (G := G) (L := L) (O := O) (X := X) hE.1
  rw [entE_o hE.2] at hq
  obtain ⟨hP, hD, hS⟩ := hI
  exact va_runV (C := C) (As := As) (rest := rest) ⟨hx, hb, hml, hown, hu⟩ hM ⟨s_callB hu hy hlv hl, hu _ h2, hu _ h3⟩ ⟨PZ_blind hBb, va_recv hK.1 hP hc hq, fun U hU hW => ⟨rfl, by rw [hU], by rw [hU]; exact hP, hD.weaken (fun _ _ _ _ => trivial), hK.warm hW, hBU U hU hW⟩⟩ rfl hn hls hst (lv_room hW) hdg hf
theorem s_runSz {Qc : Array Value → State → Outcome → State → Prop} {mc ms : Nat} (E : Cx p s m args meth c own cc nL rt) (hK : KS D cy s) (hI : IS D K sh ad cy X A s.heap H locs G L O) (hBU : ∀ U : State, U.heap = H → s.WarmedH U.vm → B U) (hBb : ∀ (U : State) (g : JFrame) (mk : MethodId) (a : Array Value), B U → B (U.calling g mk a))
    (hM : Met l y (wsU y bytes maxL ret) (rmX lv mc ms) (va_Pc As (PZ H.size D K sh ad cy X B G L O)) Qc mc ms (AZ K ad X H.size)) (hy : Ky y bytes maxL ret np) (hl : Cond.methodLink own index y ∈ UU) (h2 : Cond.static y ∈ UU) (hlv : lv + 1 ≤ lv') (hn : As.length = np) (hls : ls.size = nL) (hst : st0 = As.reverse ++ rest) (hW : (rest.map fun v => v.category).sum ≤ 8) (hf : cells + mc ≤ cs ∧ slots + ms ≤ ss) (hdg : decode cc pc = .ok (.invokestatic index, 3)) :
    va_Run p l e (rmX lv' cs ss) s m args below meth c H locs cells slots mc ms (F0 m pc ls st0) rest (Qc As.toArray) (AZ K ad X H.size) := by
  obtain ⟨hx, hb, hr, hml, hown, hu, hlocks⟩ := E
  obtain ⟨hP, hD, hS⟩ := hI
  exact va_runS (As := As) (rest := rest) ⟨hx, hb, hml, hown, hu⟩ hM ⟨s_callB hu hy hlv hl, hu _ h2⟩ ⟨PZ_blind hBb, fun U hU hW => ⟨rfl, by rw [hU], by rw [hU]; exact hP, hD.weaken (fun _ _ _ _ => trivial), hK.warm hW, hBU U hU hW⟩⟩ rfl hn hls hst (lv_room hW) hdg hf
-- final fields, in constructors
theorem s_putF {ref C : String} {T : u_T} {N ci : Nat} {ty0 : Nat → FieldType} (E : Cx p s m args meth c own cc nL rt) (hni : meth.name = "<init>") (hin : ∀ w ∈ u_ws C T N, w ∈ UU) (hty : ∀ k, k < N → parseFieldDescriptor (T k).2.2.1 = some (ty0 k)) (hnm : ∀ a, a < N → ∀ b, b < N → a ≠ b → (T a).2.1 ≠ (T b).2.1) (hK : KS D cy s) (hI : IS D K sh ad cy X A H0 H locs G L O) (hE : k ∈ K ∧ sh k = (0, ci, fl)) (hc : vwCl[ci]? = some (C, T, N)) (j : Nat) (hj : j < N) (hlink : Cond.fieldLink own index ref (T j).2.1 (T j).2.2.1 ∈ UU) (hsame : ∀ x, s.fieldFound? (T j).1 (T j).2.1 (T j).2.2.1 = some x → s.fieldFound? ref (T j).2.1 (T j).2.2.1 = some x) (hfin : (T j).2.2.2 = true) (hdecl : (T j).1 = own) (hf : fl[j]? = some 0) {ty : FieldType} {x : Int32} (hd : parseFieldDescriptor (T j).2.2.1 = some ty) (hn : narrow ty (.int x) = .int x) (hfit : fits ty (.int x) = true) {G1 : Mem} (hG : G1 = up2 G k j x) (hdg : decode cc pc = .ok (.putfield index, 3))
    (kk : ∀ (H : Heap) (locs : List Loc), IS D K sh ad cy X A H0 H locs G1 L O → W p l e R s m args below meth c H locs cells slots Q (F0 m (pc + 3) ls rest)) : W p l e R s m args below meth c H locs cells slots Q (F0 m pc ls (.int x :: .ref (ad k) :: rest)) := by
  obtain ⟨hx, hb, hr, hml, hown, hu, hlocks⟩ := E
  obtain ⟨hP, hD, hS⟩ := hI
  obtain ⟨q, hq, hKq⟩ := wS_at (sh := sh) (ad := ad) (cy := cy) (G := G) (L := L) (O := O) (X := X) hE.1
  rw [entE_o hE.2] at hq
  subst hG
  refine va_putF hx hb hu hin ty0 hty hnm hown hK.1 hP hD hS q hq hc j hj (hu _ hlink) hsame hfin hni hdecl hd hn hfit (by rw [entF_len]; exact (List.getElem?_eq_some_iff.mp hf).1) hdg (fun H1 locs1 hP1 hD1 hS1 => ?_)
  have h1 : (ad k, (Sum.inr (ci, (entF k ad G O fl).set j (.int x)) : va_E)) = (ad k, entE k (sh k) ad cy (up2 G k j x) L O) := by rw [entE_o hE.2, entF_set hf]
  rw [h1, wS_set hD hKq (fun j hj => up2_n G _ _ hj) (fun _ _ => rfl) (fun _ _ => rfl)] at hP1
  exact kk H1 locs1 ⟨hP1, wS_D hD, hS1⟩
theorem s_putOF {ref C : String} {T : u_T} {N ci : Nat} {ty0 : Nat → FieldType} (E : Cx p s m args meth c own cc nL rt) (hni : meth.name = "<init>") (hin : ∀ w ∈ u_ws C T N, w ∈ UU) (hty : ∀ k, k < N → parseFieldDescriptor (T k).2.2.1 = some (ty0 k)) (hnm : ∀ a, a < N → ∀ b, b < N → a ≠ b → (T a).2.1 ≠ (T b).2.1) (hK : KS D cy s) (hI : IS D K sh ad cy X A H0 H locs G L O) (hE : k ∈ K ∧ sh k = (0, ci, fl)) (hc : vwCl[ci]? = some (C, T, N)) (j : Nat) (hj : j < N) (hlink : Cond.fieldLink own index ref (T j).2.1 (T j).2.2.1 ∈ UU) (hsame : ∀ x, s.fieldFound? (T j).1 (T j).2.1 (T j).2.2.1 = some x → s.fieldFound? ref (T j).2.1 (T j).2.2.1 = some x) (hfin : (T j).2.2.2 = true) (hdecl : (T j).1 = own) (hf : fl[j]? = some 1) {ty : FieldType} {a : Nat} (hd : parseFieldDescriptor (T j).2.2.1 = some ty) (hn : narrow ty (.ref (ad a)) = .ref (ad a)) (hfit : fits ty (.ref (ad a)) = true) {O1 : MemO} (hO : O1 = up2 O k j (some a)) (hdg : decode cc pc = .ok (.putfield index, 3))
    (kk : ∀ (H : Heap) (locs : List Loc), IS D K sh ad cy X A H0 H locs G L O1 → W p l e R s m args below meth c H locs cells slots Q (F0 m (pc + 3) ls rest)) : W p l e R s m args below meth c H locs cells slots Q (F0 m pc ls (.ref (ad a) :: .ref (ad k) :: rest)) := by
  obtain ⟨hx, hb, hr, hml, hown, hu, hlocks⟩ := E
  obtain ⟨hP, hD, hS⟩ := hI
  obtain ⟨q, hq, hKq⟩ := wS_at (sh := sh) (ad := ad) (cy := cy) (G := G) (L := L) (O := O) (X := X) hE.1
  rw [entE_o hE.2] at hq
  subst hO
  refine va_putF (v := .ref (ad a)) hx hb hu hin ty0 hty hnm hown hK.1 hP hD hS q hq hc j hj (hu _ hlink) hsame hfin hni hdecl hd hn hfit (by rw [entF_len]; exact (List.getElem?_eq_some_iff.mp hf).1) hdg (fun H1 locs1 hP1 hD1 hS1 => ?_)
  have h1 : (ad k, (Sum.inr (ci, (entF k ad G O fl).set j (.ref (ad a))) : va_E)) = (ad k, entE k (sh k) ad cy G L (up2 O k j (some a))) := by rw [entE_o hE.2, entF_setO hf]; rfl
  rw [h1, wS_set hD hKq (fun _ _ => rfl) (fun _ _ => rfl) (fun j hj => up2_n O _ _ hj)] at hP1
  exact kk H1 locs1 ⟨hP1, wS_D hD, hS1⟩
theorem s_newR {N t t0 : Nat} (E : Cx p s m args meth c own cc nL rt) (ht6 : 6 ≤ t) (ht : (tysS cy)[t0]? = some (cy t, .object C)) (hclk : Cond.classLink own index C ∈ UU) (hover : va_AO C s) (hK : KS D cy s) (hI : IS D K sh ad cy X A H0 H locs G L O) (hA : ∀ q, H0.size ≤ q → A q) (k : Nat) (hF : Fr K sh O k) (hsh : sh k = (t, N, fl)) {n : Int32} (hn : ¬ n < 0) (hN : n.toNatClampNeg = N) (hbytes : N ≤ 100000) (hf : cells + 1 ≤ R.cells ∧ slots + N ≤ R.slots) (hdg : decode cc pc = .ok (.anewarray index, 3))
    (kk : ∀ (q : Nat) (H : Heap), IS D (K ++ [k]) sh (adU ad k q) cy X A H0 H locs G L (zr none O k) → W p l e R s m args below meth c H locs (cells + 1) (slots + N) Q (F0 m (pc + 3) ls (.ref q :: rest))) : W p l e R s m args below meth c H locs cells slots Q (F0 m pc ls (.int n :: rest)) := by
  obtain ⟨hx, hb, hr, hml, hown, hu, hlocks⟩ := E
  obtain ⟨hP, hD, hS⟩ := hI
  refine va_newq hx hb hown (hu _ hclk) hover hK.1 hP hD hS hA hn hN (by omega) hf.1 hf.2 hdg (fun q cA H1 hK1 hP1 hD1 hS1 => ?_)
  have hcA : cA = cy t := by
    have h1 := (hK1.2 (tysS cy).length (cA, .object C) (by simp)).2
    have h2 := (hK.1.2 t0 _ ht).2
    obtain ⟨kA, comp, -, -, -, e1⟩ := h1
    obtain ⟨kA2, comp2, -, -, -, e2⟩ := h2
    exact Option.some.inj (e1.symm.trans e2)
  subst hcA
  have he : (Sum.inl (cy t, (N, (Sum.inr (Sum.inr (Sum.inr (Sum.inr (fun _ => none)))) : (Nat → Int32) ⊕ (Nat → Int64) ⊕ (Nat → UInt32) ⊕ (Nat → UInt64) ⊕ (Nat → Option Nat)))) : va_E) = entE k (sh k) (adU ad k q) cy G L (zr none O k) := by
    rw [entE_r ht6 hsh, zr_k]
    rfl
  rw [he] at hP1 hD1
  exact kk q H1 (IS_push hF (fun _ _ => rfl) (fun _ _ => rfl) (fun j hj => zr_n hj) hP1 hD1 hS1)
theorem s_ast {t t0 t2 ci N : Nat} {r : vw_C} {fl2 : List Nat} (E : Cx p s m args meth c own cc nL rt) (ht6 : 6 ≤ t) (ht : (tysS cy)[t0]? = some (cy t, .object r.1)) (hK : KS D cy s) (hI : IS D K sh ad cy X A H0 H locs G L O) (hE : k ∈ K ∧ sh k = (t, n, fl)) {a : Nat} (hE2 : a ∈ K ∧ sh a = (0, ci, fl2)) (hc : vwCl[ci]? = some r) {i : Int32} (hin : vp_in i n) {O1 : MemO} (hO : O1 = up2 O k i.toNatClampNeg (some a)) (hdg : decode cc pc = .ok (.aastore, 1))
    (kk : ∀ (H : Heap) (locs : List Loc), IS D K sh ad cy X A H0 H locs G L O1 → W p l e R s m args below meth c H locs cells slots Q (F0 m (pc + 1) ls rest)) : W p l e R s m args below meth c H locs cells slots Q (F0 m pc ls (.ref (ad a) :: .int i :: .ref (ad k) :: rest)) := by
  obtain ⟨hx, hb, hr, hml, hown, hu, hlocks⟩ := E
  obtain ⟨hP, hD, hS⟩ := hI
  obtain ⟨q, hq, hKq⟩ := wS_at (sh := sh) (ad := ad) (cy := cy) (G := G) (L := L) (O := O) (X := X) hE.1
  obtain ⟨q2, hq2, -⟩ := wS_at (sh := sh) (ad := ad) (cy := cy) (G := G) (L := L) (O := O) (X := X) hE2.1
  rw [entE_r ht6 hE.2] at hq
  rw [entE_o hE2.2] at hq2
  subst hO
  refine va_astq hx hb hK.1 hP hD hS q t0 q2 ci hq ht hq2 hc hin hdg (fun H1 locs1 hP1 hD1 hS1 => ?_)
  have h1 : (ad k, (Sum.inl (cy t, (n, .inr (.inr (.inr (.inr (va_up (fun j => (O k j).map ad) i.toNatClampNeg (some (ad a)))))))) : va_E)) = (ad k, entE k (sh k) ad cy G L (up2 O k i.toNatClampNeg (some a))) := by
    rw [entE_r ht6 hE.2, up2_a]
    congr 7
    refine congrArg Sum.inr (funext fun j => ?_)
    unfold va_up
    show (if j = i.toNatClampNeg then some (ad a) else Option.map ad (O k j)) = Option.map ad (if j = i.toNatClampNeg then some a else O k j)
    by_cases hj : j = i.toNatClampNeg
    · rw [if_pos hj, if_pos hj]; rfl
    · rw [if_neg hj, if_neg hj]
  rw [h1, wS_set hD hKq (fun _ _ => rfl) (fun _ _ => rfl) (fun j hj => up2_n O _ _ hj)] at hP1
  exact kk H1 locs1 ⟨hP1, wS_D hD, hS1⟩
theorem HC.mono {K2 : List Nat} (h : HC S K sh) (hKK : ∀ k ∈ K, k ∈ K2) : HC S K2 sh := ⟨fun q hq => ⟨hKK _ (h.1 q hq).1, (h.1 q hq).2⟩, fun e he => ⟨hKK _ (h.2.1 e he).1, (h.2.1 e he).2⟩, fun e he => by
  obtain ⟨h1, h2, h3, h4⟩ := h.2.2 e he
  exact ⟨⟨hKK _ h1.1, h1.2⟩, ⟨hKK _ h2.1, h2.2⟩, ⟨hKK _ h3.1, h3.2⟩, hKK _ h4.1, h4.2⟩⟩
end LZ
