-- making: entities that come
def AZ (K : List Nat) (ad : Nat → Nat) (X : va_W) (sz : Nat) : Nat → Prop := fun q => AS K ad X q ∨ sz ≤ q
def zr {α : Type} (z : α) (G : Nat → Nat → α) (k : Nat) : Nat → Nat → α := fun b => if b = k then (fun _ => z) else G b
theorem zr_n {α : Type} {z : α} {G : Nat → Nat → α} {k b : Nat} (h : b ≠ k) : zr z G k b = G b := if_neg h
theorem zr_k {α : Type} {z : α} {G : Nat → Nat → α} {k : Nat} : zr z G k k = fun _ => z := if_pos rfl
def adU (ad : Nat → Nat) (k q : Nat) : Nat → Nat := fun b => if b = k then q else ad b
theorem va_D.perm {A : Nat → Prop} {w1 w2 : va_W} (h : ∀ i : Nat, ∀ x, w2[i]? = some x → ∃ j : Nat, w1[j]? = some x) (hn : (w2.map Prod.fst).Nodup) (hD : va_D A w1) : va_D A w2 := by
  refine ⟨fun i j p q hi hj hpq => ?_, fun k q hk => ?_⟩
  · have h1 : (w2.map Prod.fst)[i]? = some p.1 := by rw [List.getElem?_map, hi]; rfl
    have h2 : (w2.map Prod.fst)[j]? = some p.1 := by rw [List.getElem?_map, hj, hpq]; rfl
    have hl1 : i < (w2.map Prod.fst).length := (List.getElem?_eq_some_iff.mp h1).1
    have hl2 : j < (w2.map Prod.fst).length := (List.getElem?_eq_some_iff.mp h2).1
    have e1 := (List.getElem?_eq_some_iff.mp h1).2
    have e2 := (List.getElem?_eq_some_iff.mp h2).2
    rw [List.nodup_iff_pairwise_ne, List.pairwise_iff_getElem] at hn
    rcases Nat.lt_trichotomy i j with h3 | h3 | h3
    · exact absurd (e1.trans e2.symm) (hn i j hl1 hl2 h3)
    · exact h3
    · exact absurd (e2.trans e1.symm) (hn j i hl2 hl1 h3)
  · obtain ⟨j, hj⟩ := h k q hk
    exact hD.2 j q hj
theorem va_D.nodup {A : Nat → Prop} {w : va_W} (hD : va_D A w) : (w.map Prod.fst).Nodup := by
  rw [List.nodup_iff_pairwise_ne, List.pairwise_iff_getElem]
  intro i j hi hj hij e
  have hi' : i < w.length := by simpa using hi
  have hj' : j < w.length := by simpa using hj
  have h1 : w[i]? = some w[i] := List.getElem?_eq_getElem hi'
  have h2 : w[j]? = some w[j] := List.getElem?_eq_getElem hj'
  simp only [List.getElem_map] at e
  have := hD.1 i j _ _ h1 h2 e
  omega
theorem va_P.mem {D : va_G} {cl : List vw_C} {w1 w2 : va_W} {H : Heap} (h : ∀ x ∈ w2, x ∈ w1) (hP : va_P D cl w1 H) : va_P D cl w2 H := by
  intro k q hk
  obtain ⟨i, hi⟩ := List.getElem?_of_mem (h q (List.mem_of_getElem? hk))
  exact hP i q hi
theorem va_D.memP {A : Nat → Prop} {w1 w2 : va_W} (hp : w2.Perm w1) (hD : va_D A w1) : va_D A w2 :=
  va_D.perm (fun i x hi => List.getElem?_of_mem (hp.mem_iff.mp (List.mem_of_getElem? hi))) (((hp.map Prod.fst).nodup_iff).mpr (va_D.nodup hD)) hD
theorem wS_push {K : List Nat} {sh : Nat → Ent} {ad : Nat → Nat} {cy : Nat → ClassId} {G G' : Mem} {L L' : MemL} {O O' : MemO} {k q : Nat} (hk : k ∉ K) (hr : ∀ j ∈ K, ∀ r, r + 2 ∈ (sh j).2.2 → r ≠ k) (hO : ∀ j ∈ K, ∀ i, O j i ≠ some k) (hG : ∀ j, j ≠ k → G' j = G j) (hL : ∀ j, j ≠ k → L' j = L j) (hO' : ∀ j, j ≠ k → O' j = O j) :
    wS (K ++ [k]) sh (adU ad k q) cy G' L' O' = wS K sh ad cy G L O ++ [(q, entE k (sh k) (adU ad k q) cy G' L' O')] := by
  unfold wS
  rw [List.map_append]
  congr 1
  · apply List.map_congr_left
    intro j hj
    have hne : j ≠ k := fun e => hk (e ▸ hj)
    have h1 : adU ad k q j = ad j := if_neg hne
    rw [h1]
    have h2 : entE j (sh j) (adU ad k q) cy G' L' O' = entE j (sh j) ad cy G L O := by
      rw [entE_congr (hG j hne) (hL j hne) (hO' j hne)]
      have e1 : entF j (adU ad k q) G O (sh j).2.2 = entF j ad G O (sh j).2.2 := by
        unfold entF
        apply List.ext_getElem?
        intro i
        rw [List.getElem?_mapIdx, List.getElem?_mapIdx]
        cases hd : (sh j).2.2[i]? with
        | none => rfl
        | some d =>
          simp only [Option.map_some]
          congr 1
          match d with
          | 0 => rfl
          | 1 =>
            simp only [fval]
            cases ho : O j i with
            | none => rfl
            | some a =>
              have : a ≠ k := fun e => hO j hj i (by rw [ho, e])
              simp [adU, this]
          | r + 2 =>
            simp only [fval]
            have : r ≠ k := hr j hj r (List.mem_of_getElem? hd)
            simp [adU, this]
      have e2 : (fun i => (O j i).map (adU ad k q)) = fun i => (O j i).map ad := by
        funext i
        cases ho : O j i with
        | none => rfl
        | some a =>
          have : a ≠ k := fun e => hO j hj i (by rw [ho, e])
          simp [adU, this]
      unfold entE
      rw [e1, e2]
    rw [h2]
  · simp [adU]
/-- what has to hold that a further entity k can come: nobody speaks of it yet -/
def Fr (K : List Nat) (sh : Nat → Ent) (O : MemO) (k : Nat) : Prop := k ∉ K ∧ (∀ j ∈ K, ∀ r, r + 2 ∈ (sh j).2.2 → r ≠ k) ∧ ∀ j ∈ K, ∀ i, O j i ≠ some k
def okD : Nat → FieldType → Bool
  | 0, .int => true
  | 0, .boolean => true
  | 1, .object _ => true
  | 1, .array _ => true
  | _, _ => false
theorem okD_fs {k : Nat} {ad : Nat → Nat} {G : Mem} {O : MemO} {fl : List Nat} {N : Nat} {ty : Nat → FieldType} (hG : G k = fun _ => 0) (hO : O k = fun _ => none) (h : ∀ j, j < N → okD (fl.getD j 9) (ty j) = true) : ∀ j, j < N → defaultValue (ty j) = vp_V (entF k ad G O fl) j := by
  intro j hj
  have h1 := h j hj
  cases hd : fl[j]? with
  | none =>
    rw [List.getD_eq_getElem?_getD, hd] at h1
    cases h1
  | some d =>
    rw [List.getD_eq_getElem?_getD, hd] at h1
    have h2 : vp_V (entF k ad G O fl) j = fval k ad G O j d := by
      unfold vp_V
      rw [List.getD_eq_getElem?_getD, entF_at hd]
      rfl
    rw [h2]
    simp only [Option.getD_some] at h1
    revert h1
    match d with
    | 0 =>
      cases ty j <;> intro h1 <;> first | (cases h1; done) | (simp [fval, hG, defaultValue]; done) | rfl
    | 1 =>
      cases ty j <;> intro h1 <;> first | (cases h1; done) | (simp [fval, hO, defaultValue, va_rf]; done) | rfl
    | q + 2 => intro h1; cases ty j <;> cases h1
section LZ
variable {p : Program} {l : Launch} {e : Env} {R : Room} {s : State} {m : MethodId} {args : Array Value} {below : List Frame} {meth : Method} {c : Code} {H H0 : Heap} {locs : List Loc} {cells slots : Nat} {Q : State → Prop}
variable {cc : ByteArray} {pc : Nat} {ls : Array Slot} {rest st0 : List Value} {D : va_G} {K : List Nat} {sh : Nat → Ent} {ad : Nat → Nat} {cy : Nat → ClassId} {X : va_W} {A : Nat → Prop} {B : State → Prop} {G G1 : Mem} {L L1 : MemL} {O O1 : MemO} {S : Nat → Nat} {k n : Nat} {fl : List Nat}
variable {y x : MethodName} {bytes : ByteArray} {maxL nL np index lv lv' cs ss : Nat} {ret rt : Option FieldType} {own C owner host : String} {As : List Value} {v : Int32} {w : Int64}
theorem IS_push {q : Nat} {H1 : Heap} {G' : Mem} {L' : MemL} {O' : MemO} (hF : Fr K sh O k) (hG : ∀ j, j ≠ k → G' j = G j) (hL : ∀ j, j ≠ k → L' j = L j) (hO' : ∀ j, j ≠ k → O' j = O j) (hP : va_P D vwCl ((wS K sh ad cy G L O ++ X) ++ [(q, entE k (sh k) (adU ad k q) cy G' L' O')]) H1) (hD : va_D A ((wS K sh ad cy G L O ++ X) ++ [(q, entE k (sh k) (adU ad k q) cy G' L' O')])) (hS : va_S A H0 H1 locs) : IS D (K ++ [k]) sh (adU ad k q) cy X A H0 H1 locs G' L' O' := by
  have e := wS_push (sh := sh) (ad := ad) (cy := cy) (q := q) hF.1 hF.2.1 hF.2.2 hG hL hO'
  have hp : (wS (K ++ [k]) sh (adU ad k q) cy G' L' O' ++ X).Perm ((wS K sh ad cy G L O ++ X) ++ [(q, entE k (sh k) (adU ad k q) cy G' L' O')]) := by
    rw [e, List.append_assoc, List.append_assoc]
    exact List.Perm.append_left _ List.perm_append_comm
  exact ⟨va_P.mem (fun x hx => hp.mem_iff.mp hx) hP, va_D.memP hp hD, hS⟩
theorem s_newObj {T : u_T} {N ci : Nat} {ty : Nat → FieldType} (E : Cx p s m args meth c own cc nL rt) (hin : ∀ w ∈ u_ws C T N, w ∈ UU) (hty : ∀ k, k < N → parseFieldDescriptor (T k).2.2.1 = some (ty k)) (hcl : Cond.classLink own index C ∈ UU) (hinst : Cond.instantiable C N ∈ UU) (hini : Cond.initialized C ∈ UU) (hK : KS D cy s) (hI : IS D K sh ad cy X A H0 H locs G L O) (hA : ∀ q, H0.size ≤ q → A q) (hc : vwCl[ci]? = some (C, T, N)) (k : Nat) (hF : Fr K sh O k) (hsh : sh k = (0, ci, fl)) (hN : fl.length = N) (hd : ∀ j, j < N → okD (fl.getD j 9) (ty j) = true) (hf : cells + 1 ≤ R.cells ∧ slots + N ≤ R.slots) (hdg : decode cc pc = .ok (.new index, 3))
    (kk : ∀ (q : Nat) (H : Heap), IS D (K ++ [k]) sh (adU ad k q) cy X A H0 H locs (zr 0 G k) L (zr none O k) → W p l e R s m args below meth c H locs (cells + 1) (slots + N) Q (F0 m (pc + 3) ls (.ref q :: rest))) : W p l e R s m args below meth c H locs cells slots Q (F0 m pc ls rest) := by
  obtain ⟨hx, hb, hr, hml, hown, hu, hlocks⟩ := E
  obtain ⟨hP, hD, hS⟩ := hI
  have h0 : ∀ q, entE k (sh k) (adU ad k q) cy (zr 0 G k) L (zr none O k) = .inr (ci, entF k (adU ad k q) (zr 0 G k) (zr none O k) fl) := fun q => entE_o hsh
  have hfs : ∀ q, entF k (adU ad k q) (zr 0 G k) (zr none O k) fl = entF k (adU ad k 0) (zr 0 G k) (zr none O k) fl := by
    intro q
    unfold entF
    apply List.ext_getElem?
    intro i
    rw [List.getElem?_mapIdx, List.getElem?_mapIdx]
    cases hd1 : fl[i]? with
    | none => rfl
    | some d =>
      simp only [Option.map_some]
      congr 1
      match d with
      | 0 => rfl
      | 1 => simp [fval, zr]
      | r + 2 =>
        have hi : i < N := by rw [← hN]; exact (List.getElem?_eq_some_iff.mp hd1).1
        have h9 := hd i hi
        rw [List.getD_eq_getElem?_getD, hd1] at h9
        simp only [Option.getD_some] at h9
        cases ty i <;> cases h9
  refine va_new (fs := entF k (adU ad k 0) (zr 0 G k) (zr none O k) fl) hx hb hu hin ty hty hown (hu _ hcl) (hu _ hinst) (hu _ hini) hK.1 hP hD hS hA hc (okD_fs (ad := adU ad k 0) zr_k zr_k hd) hf.1 hf.2 hdg (fun q H1 hP1 hD1 hS1 => ?_)
  rw [← hfs q, ← h0 q] at hP1 hD1
  exact kk q H1 (IS_push hF (fun j hj => zr_n hj) (fun _ _ => rfl) (fun j hj => zr_n hj) hP1 hD1 hS1)
theorem s_newArr {atype : ArrayType} {ty : FieldType} {N t t0 : Nat} {a0 : vp_A} {G' : Mem} {L' : MemL} {O' : MemO} (E : Cx p s m args meth c own cc nL rt) (harr : Cond.arrayClass (newarray.typeOf atype) ∈ UU) (hty : newarray.typeOf atype = ty) (hK : KS D cy s) (hI : IS D K sh ad cy X A H0 H locs G L O) (hA : ∀ q, H0.size ≤ q → A q) (ht : (tysS cy)[t0]? = some (cy t, ty)) (hnm : ∀ cA, s.vm.findClass ("[" ++ (newarray.typeOf atype).toString) = some cA → s.vm.findClass ("[" ++ ty.toString) = some cA) (hprim : ∀ U cA, va_RA U cA ty → U.vm.findClass ("[" ++ ty.toString) = some cA) (k : Nat) (hF : Fr K sh O k) (he : ∀ q, entE k (sh k) (adU ad k q) cy G' L' O' = .inl (cy t, a0)) (hG : ∀ j, j ≠ k → G' j = G j) (hL : ∀ j, j ≠ k → L' j = L j) (hO : ∀ j, j ≠ k → O' j = O j) (ha : ∀ cA : ClassId, vp_cell cA a0 = arrV cA N (fun _ => defaultValue ty)) {n : Int32} (hn : ¬ n < 0) (hN : n.toNatClampNeg = N) (hbytes : N * componentBytes ty ≤ 536870912) (hf : cells + 1 ≤ R.cells ∧ slots + N ≤ R.slots) (hdg : decode cc pc = .ok (.newarray atype, 2))
    (kk : ∀ (q : Nat) (H : Heap), IS D (K ++ [k]) sh (adU ad k q) cy X A H0 H locs G' L' O' → W p l e R s m args below meth c H locs (cells + 1) (slots + N) Q (F0 m (pc + 2) ls (.ref q :: rest))) : W p l e R s m args below meth c H locs cells slots Q (F0 m pc ls (.int n :: rest)) := by
  obtain ⟨hx, hb, hr, hml, hown, hu, hlocks⟩ := E
  obtain ⟨hP, hD, hS⟩ := hI
  subst hty
  refine va_newaK hx hb (hu _ harr) rfl hdg rfl hn hN hbytes hf.1 hf.2 rfl fun H1 cA e1 z1 o1 hAr hNm => ?_
  have hcA : cA = cy t := Option.some.inj (hNm.symm.trans (hprim s _ (hK.1.2 t0 _ ht).2))
  subst hcA
  have hk : ∀ (k : Nat) (x : Nat × va_E), (wS K sh ad cy G L O ++ X)[k]? = some x → H1[x.1]? = H[x.1]? := fun k x hx => o1 x.1 ((hP k x hx).lt)
  have hP1 : va_P D vwCl ((wS K sh ad cy G L O ++ X) ++ [(H.size, entE k (sh k) (adU ad k H.size) cy G' L' O')]) H1 := by
    refine (hP.kept hk).app (fun k2 x hx => ?_)
    have hz : k2 < 1 := (List.getElem?_eq_some_iff.mp hx).1
    rw [show k2 = 0 by omega] at hx
    cases hx
    rw [he]
    show H1[H.size]? = some (vp_cell _ _)
    rw [ha]
    exact e1
  exact kk H.size H1 (IS_push hF hG hL hO hP1 (hD.push hP rfl (hA _ hS.1)) ⟨Nat.le_trans hS.1 (by omega), fun x h1 h2 => (o1 x (Nat.lt_of_lt_of_le h1 hS.1)).trans (hS.2.1 x h1 h2), hS.2.2⟩)
theorem s_newI {N : Nat} (E : Cx p s m args meth c own cc nL rt) (harr : Cond.arrayClass FieldType.int ∈ UU) (hK : KS D cy s) (hI : IS D K sh ad cy X A H0 H locs G L O) (hA : ∀ q, H0.size ≤ q → A q) (k : Nat) (hF : Fr K sh O k) (hsh : sh k = (1, N, fl)) {n : Int32} (hn : ¬ n < 0) (hN : n.toNatClampNeg = N) (hbytes : N ≤ 100000) (hf : cells + 1 ≤ R.cells ∧ slots + N ≤ R.slots) (hdg : decode cc pc = .ok (.newarray .int, 2))
    (kk : ∀ (q : Nat) (H : Heap), IS D (K ++ [k]) sh (adU ad k q) cy X A H0 H locs (zr 0 G k) L O → W p l e R s m args below meth c H locs (cells + 1) (slots + N) Q (F0 m (pc + 2) ls (.ref q :: rest))) : W p l e R s m args below meth c H locs cells slots Q (F0 m pc ls (.int n :: rest)) :=
  s_newArr (atype := .int) (ty := .int) (t := 1) (t0 := 0) (a0 := (N, .inl (fun _ => 0))) E harr rfl hK hI hA rfl (fun _ h => h) (fun U cA h => h) k hF (fun q => by rw [entE_1 hsh, zr_k]) (fun j hj => zr_n hj) (fun _ _ => rfl) (fun _ _ => rfl) (fun _ => rfl) hn hN (by show N * 4 ≤ _; omega) hf hdg kk
theorem s_newB {N : Nat} (E : Cx p s m args meth c own cc nL rt) (harr : Cond.arrayClass FieldType.byte ∈ UU) (hK : KS D cy s) (hI : IS D K sh ad cy X A H0 H locs G L O) (hA : ∀ q, H0.size ≤ q → A q) (k : Nat) (hF : Fr K sh O k) (hsh : sh k = (2, N, fl)) {n : Int32} (hn : ¬ n < 0) (hN : n.toNatClampNeg = N) (hbytes : N ≤ 100000) (hf : cells + 1 ≤ R.cells ∧ slots + N ≤ R.slots) (hdg : decode cc pc = .ok (.newarray .byte, 2))
    (kk : ∀ (q : Nat) (H : Heap), IS D (K ++ [k]) sh (adU ad k q) cy X A H0 H locs (zr 0 G k) L O → W p l e R s m args below meth c H locs (cells + 1) (slots + N) Q (F0 m (pc + 2) ls (.ref q :: rest))) : W p l e R s m args below meth c H locs cells slots Q (F0 m pc ls (.int n :: rest)) :=
  s_newArr (atype := .byte) (ty := .byte) (t := 2) (t0 := 1) (a0 := (N, .inl (fun _ => 0))) E harr rfl hK hI hA rfl (fun _ h => h) (fun U cA h => h) k hF (fun q => by rw [entE_2 hsh, zr_k]) (fun j hj => zr_n hj) (fun _ _ => rfl) (fun _ _ => rfl) (fun _ => rfl) hn hN (by show N * 1 ≤ _; omega) hf hdg kk
theorem s_newZ {N : Nat} (E : Cx p s m args meth c own cc nL rt) (harr : Cond.arrayClass FieldType.boolean ∈ UU) (hK : KS D cy s) (hI : IS D K sh ad cy X A H0 H locs G L O) (hA : ∀ q, H0.size ≤ q → A q) (k : Nat) (hF : Fr K sh O k) (hsh : sh k = (3, N, fl)) {n : Int32} (hn : ¬ n < 0) (hN : n.toNatClampNeg = N) (hbytes : N ≤ 100000) (hf : cells + 1 ≤ R.cells ∧ slots + N ≤ R.slots) (hdg : decode cc pc = .ok (.newarray .boolean, 2))
    (kk : ∀ (q : Nat) (H : Heap), IS D (K ++ [k]) sh (adU ad k q) cy X A H0 H locs (zr 0 G k) L O → W p l e R s m args below meth c H locs (cells + 1) (slots + N) Q (F0 m (pc + 2) ls (.ref q :: rest))) : W p l e R s m args below meth c H locs cells slots Q (F0 m pc ls (.int n :: rest)) :=
  s_newArr (atype := .boolean) (ty := .boolean) (t := 3) (t0 := 2) (a0 := (N, .inl (fun _ => 0))) E harr rfl hK hI hA rfl (fun _ h => h) (fun U cA h => h) k hF (fun q => by rw [entE_3 hsh, zr_k]) (fun j hj => zr_n hj) (fun _ _ => rfl) (fun _ _ => rfl) (fun _ => rfl) hn hN (by show N * 1 ≤ _; omega) hf hdg kk
theorem s_newC {N : Nat} (E : Cx p s m args meth c own cc nL rt) (harr : Cond.arrayClass FieldType.char ∈ UU) (hK : KS D cy s) (hI : IS D K sh ad cy X A H0 H locs G L O) (hA : ∀ q, H0.size ≤ q → A q) (k : Nat) (hF : Fr K sh O k) (hsh : sh k = (4, N, fl)) {n : Int32} (hn : ¬ n < 0) (hN : n.toNatClampNeg = N) (hbytes : N ≤ 100000) (hf : cells + 1 ≤ R.cells ∧ slots + N ≤ R.slots) (hdg : decode cc pc = .ok (.newarray .char, 2))
    (kk : ∀ (q : Nat) (H : Heap), IS D (K ++ [k]) sh (adU ad k q) cy X A H0 H locs (zr 0 G k) L O → W p l e R s m args below meth c H locs (cells + 1) (slots + N) Q (F0 m (pc + 2) ls (.ref q :: rest))) : W p l e R s m args below meth c H locs cells slots Q (F0 m pc ls (.int n :: rest)) :=
  s_newArr (atype := .char) (ty := .char) (t := 4) (t0 := 3) (a0 := (N, .inl (fun _ => 0))) E harr rfl hK hI hA rfl (fun _ h => h) (fun U cA h => h) k hF (fun q => by rw [entE_4 hsh, zr_k]) (fun j hj => zr_n hj) (fun _ _ => rfl) (fun _ _ => rfl) (fun _ => rfl) hn hN (by show N * 2 ≤ _; omega) hf hdg kk
theorem s_newL {N : Nat} (E : Cx p s m args meth c own cc nL rt) (harr : Cond.arrayClass FieldType.long ∈ UU) (hK : KS D cy s) (hI : IS D K sh ad cy X A H0 H locs G L O) (hA : ∀ q, H0.size ≤ q → A q) (k : Nat) (hF : Fr K sh O k) (hsh : sh k = (5, N, fl)) {n : Int32} (hn : ¬ n < 0) (hN : n.toNatClampNeg = N) (hbytes : N ≤ 100000) (hf : cells + 1 ≤ R.cells ∧ slots + N ≤ R.slots) (hdg : decode cc pc = .ok (.newarray .long, 2))
    (kk : ∀ (q : Nat) (H : Heap), IS D (K ++ [k]) sh (adU ad k q) cy X A H0 H locs G (zr 0 L k) O → W p l e R s m args below meth c H locs (cells + 1) (slots + N) Q (F0 m (pc + 2) ls (.ref q :: rest))) : W p l e R s m args below meth c H locs cells slots Q (F0 m pc ls (.int n :: rest)) :=
  s_newArr (atype := .long) (ty := .long) (t := 5) (t0 := 4) (a0 := (N, .inr (.inl (fun _ => 0)))) E harr rfl hK hI hA rfl (fun _ h => h) (fun U cA h => h) k hF (fun q => by rw [entE_l hsh, zr_k]) (fun _ _ => rfl) (fun j hj => zr_n hj) (fun _ _ => rfl) (fun _ => rfl) hn hN (by show N * 8 ≤ _; omega) hf hdg kk
end LZ
