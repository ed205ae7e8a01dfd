-- the abstract store: entities k of K, each an object or an array, with int, long and reference memories
abbrev Mem : Type := Nat → Nat → Int32
abbrev MemL : Type := Nat → Nat → Int64
abbrev MemO : Type := Nat → Nat → Option Nat
abbrev Ent : Type := Nat × Nat × List Nat
def up2 {α : Type} (G : Nat → Nat → α) (a j : Nat) (v : α) : Nat → Nat → α := fun b => if b = a then (fun i => if i = j then v else G a i) else G b
theorem up2_a {α : Type} (G : Nat → Nat → α) (a j : Nat) (v : α) : up2 G a j v a = fun i => if i = j then v else G a i := if_pos rfl
theorem up2_n {α : Type} (G : Nat → Nat → α) {a b : Nat} (j : Nat) (v : α) (h : b ≠ a) : up2 G a j v b = G b := if_neg h
theorem up2_aa {α : Type} (G : Nat → Nat → α) (a j : Nat) (v : α) : up2 G a j v a j = v := by rw [up2_a]; exact if_pos rfl
theorem up2_an {α : Type} (G : Nat → Nat → α) (a : Nat) {i j : Nat} (v : α) (h : i ≠ j) : up2 G a j v a i = G a i := by rw [up2_a]; exact if_neg h
-- binds of the pure functions
def bnd {α β : Type} (a : α) (f : α → β) : β := f a
def chk {α : Type} (b : Bool) (x : Option α) : Option α := match b with
  | true => x
  | false => none
def bndO {α β : Type} (o : Option α) (f : α → Option β) : Option β := match o with
  | some a => f a
  | none => none
def bndP {α γ β : Type} (o : Option (α × γ)) (f : α → γ → Option β) : Option β := match o with
  | some (a, c) => f a c
  | none => none
def bndP3 {α γ δ β : Type} (o : Option (α × γ × δ)) (f : α → γ → δ → Option β) : Option β := match o with
  | some (a, c, d) => f a c d
  | none => none
def iter {α β : Type} (b : (α → Option β) → α → Option β) : Nat → α → Option β
  | 0 => fun _ => none
  | n + 1 => b (iter b n)
def fuel : Nat := 100000
theorem bnd_i {α β : Type} {a : α} {f : α → β} {r : β} (h : bnd a f = r) : ∃ x, x = a ∧ f x = r := ⟨a, rfl, h⟩
theorem chk_i {α : Type} {b : Bool} {x : Option α} {r : α} (h : chk b x = some r) : b = true ∧ x = some r := by
  cases b with
  | true => exact ⟨rfl, h⟩
  | false => cases h
theorem bndO_i {α β : Type} {o : Option α} {f : α → Option β} {r : β} (h : bndO o f = some r) : ∃ a, o = some a ∧ f a = some r := by
  cases o with
  | some a => exact ⟨a, rfl, h⟩
  | none => cases h
theorem bndP_i {α γ β : Type} {o : Option (α × γ)} {f : α → γ → Option β} {r : β} (h : bndP o f = some r) : ∃ a c, o = some (a, c) ∧ f a c = some r := by
  cases o with
  | some a => exact ⟨a.1, a.2, rfl, h⟩
  | none => cases h
theorem bndP3_i {α γ δ β : Type} {o : Option (α × γ × δ)} {f : α → γ → δ → Option β} {r : β} (h : bndP3 o f = some r) : ∃ a c d, o = some (a, c, d) ∧ f a c d = some r := by
  cases o with
  | some a => exact ⟨a.1, a.2.1, a.2.2, rfl, h⟩
  | none => cases h
theorem ite_t {α : Type} {c : Prop} [Decidable c] {a b : α} {r : α} (hc : c) (h : (if c then a else b) = r) : a = r := (if_pos hc).symm.trans h
theorem ite_f {α : Type} {c : Prop} [Decidable c] {a b : α} {r : α} (hc : ¬ c) (h : (if c then a else b) = r) : b = r := (if_neg hc).symm.trans h
def inB (i : Int32) (n : Nat) : Bool := decide (¬ (i < 0 ∨ n ≤ i.toNatClampNeg))
theorem inB_i {i : Int32} {n : Nat} (h : inB i n = true) : vp_in i n := of_decide_eq_true (p := ¬ (i < 0 ∨ n ≤ i.toNatClampNeg)) h
def neB (y : Int32) : Bool := decide (¬ y = 0)
theorem neB_i {y : Int32} (h : neB y = true) : ¬ y = 0 := of_decide_eq_true h
def isB (v : Int32) : Bool := decide (v = 0 ∨ v = 1)
theorem isB_i {v : Int32} (h : isB v = true) : narrow .boolean (.int v) = .int v := by
  rcases of_decide_eq_true h with rfl | rfl <;> rfl
theorem isB_f {v : Int32} (h : isB v = true) : fits .boolean (.int v) = true := by
  rcases of_decide_eq_true h with rfl | rfl <;> rfl
-- shapes
def fval (k : Nat) (ad : Nat → Nat) (G : Mem) (O : MemO) (j d : Nat) : Value := match d with
  | 0 => .int (G k j)
  | 1 => va_rf ((O k j).map ad)
  | q + 2 => .ref (ad q)
def entF (k : Nat) (ad : Nat → Nat) (G : Mem) (O : MemO) (fl : List Nat) : List Value := fl.mapIdx (fun j d => fval k ad G O j d)
def entE (k : Nat) (x : Ent) (ad : Nat → Nat) (cy : Nat → ClassId) (G : Mem) (L : MemL) (O : MemO) : va_E :=
  if x.1 = 0 then .inr (x.2.1, entF k ad G O x.2.2) else if x.1 = 5 then .inl (cy 5, (x.2.1, .inr (.inl (L k)))) else if 6 ≤ x.1 then .inl (cy x.1, (x.2.1, .inr (.inr (.inr (.inr (fun j => (O k j).map ad)))))) else .inl (cy x.1, (x.2.1, .inl (G k)))
def wS (K : List Nat) (sh : Nat → Ent) (ad : Nat → Nat) (cy : Nat → ClassId) (G : Mem) (L : MemL) (O : MemO) : va_W := K.map (fun k => (ad k, entE k (sh k) ad cy G L O))
theorem entF_at {k : Nat} {ad : Nat → Nat} {G : Mem} {O : MemO} {fl : List Nat} {j d : Nat} (h : fl[j]? = some d) : (entF k ad G O fl)[j]? = some (fval k ad G O j d) := by
  simp [entF, List.getElem?_mapIdx, h]
theorem entF_len {k : Nat} {ad : Nat → Nat} {G : Mem} {O : MemO} {fl : List Nat} : (entF k ad G O fl).length = fl.length := by simp [entF]
theorem entF_set {k : Nat} {ad : Nat → Nat} {G : Mem} {O : MemO} {fl : List Nat} {j : Nat} {x : Int32} (h : fl[j]? = some 0) : entF k ad (up2 G k j x) O fl = (entF k ad G O fl).set j (.int x) := by
  apply List.ext_getElem?
  intro i
  rw [List.getElem?_set]
  by_cases hi : j = i
  · subst hi
    have hl : j < fl.length := (List.getElem?_eq_some_iff.mp h).1
    rw [entF_at h, if_pos rfl, if_pos (by rw [entF_len]; exact hl)]
    simp [fval, up2_aa]
  · rw [if_neg hi]
    cases hd : fl[i]? with
    | none => simp [entF, List.getElem?_mapIdx, hd]
    | some d =>
      rw [entF_at hd, entF_at hd]
      congr 1
      match d with
      | 0 => simp [fval, up2_an G k x (Ne.symm hi)]
      | 1 => rfl
      | q + 2 => rfl
theorem entF_setO {k : Nat} {ad : Nat → Nat} {G : Mem} {O : MemO} {fl : List Nat} {j : Nat} {x : Option Nat} (h : fl[j]? = some 1) : entF k ad G (up2 O k j x) fl = (entF k ad G O fl).set j (va_rf (x.map ad)) := by
  apply List.ext_getElem?
  intro i
  rw [List.getElem?_set]
  by_cases hi : j = i
  · subst hi
    have hl : j < fl.length := (List.getElem?_eq_some_iff.mp h).1
    rw [entF_at h, if_pos rfl, if_pos (by rw [entF_len]; exact hl)]
    simp [fval, up2_aa]
  · rw [if_neg hi]
    cases hd : fl[i]? with
    | none => simp [entF, List.getElem?_mapIdx, hd]
    | some d =>
      rw [entF_at hd, entF_at hd]
      congr 1
      match d with
      | 0 => rfl
      | 1 => simp [fval, up2_an O k x (Ne.symm hi)]
      | q + 2 => rfl
theorem entE_o {k ci : Nat} {fl : List Nat} {x : Ent} {ad : Nat → Nat} {cy : Nat → ClassId} {G : Mem} {L : MemL} {O : MemO} (h : x = (0, ci, fl)) : entE k x ad cy G L O = .inr (ci, entF k ad G O fl) := by subst h; rfl
theorem entE_l {k n : Nat} {fl : List Nat} {x : Ent} {ad : Nat → Nat} {cy : Nat → ClassId} {G : Mem} {L : MemL} {O : MemO} (h : x = (5, n, fl)) : entE k x ad cy G L O = .inl (cy 5, (n, .inr (.inl (L k)))) := by subst h; rfl
theorem entE_1 {k n : Nat} {fl : List Nat} {x : Ent} {ad : Nat → Nat} {cy : Nat → ClassId} {G : Mem} {L : MemL} {O : MemO} (h : x = (1, n, fl)) : entE k x ad cy G L O = .inl (cy 1, (n, .inl (G k))) := by subst h; rfl
theorem entE_2 {k n : Nat} {fl : List Nat} {x : Ent} {ad : Nat → Nat} {cy : Nat → ClassId} {G : Mem} {L : MemL} {O : MemO} (h : x = (2, n, fl)) : entE k x ad cy G L O = .inl (cy 2, (n, .inl (G k))) := by subst h; rfl
theorem entE_3 {k n : Nat} {fl : List Nat} {x : Ent} {ad : Nat → Nat} {cy : Nat → ClassId} {G : Mem} {L : MemL} {O : MemO} (h : x = (3, n, fl)) : entE k x ad cy G L O = .inl (cy 3, (n, .inl (G k))) := by subst h; rfl
theorem entE_4 {k n : Nat} {fl : List Nat} {x : Ent} {ad : Nat → Nat} {cy : Nat → ClassId} {G : Mem} {L : MemL} {O : MemO} (h : x = (4, n, fl)) : entE k x ad cy G L O = .inl (cy 4, (n, .inl (G k))) := by subst h; rfl
theorem entE_r {k t n : Nat} {fl : List Nat} {x : Ent} {ad : Nat → Nat} {cy : Nat → ClassId} {G : Mem} {L : MemL} {O : MemO} (ht : 6 ≤ t) (h : x = (t, n, fl)) : entE k x ad cy G L O = .inl (cy t, (n, .inr (.inr (.inr (.inr (fun j => (O k j).map ad)))))) := by
  subst h
  unfold entE
  rw [if_neg (by show ¬ t = 0; omega), if_neg (by show ¬ t = 5; omega), if_pos ht]
theorem entE_congr {k : Nat} {x : Ent} {ad : Nat → Nat} {cy : Nat → ClassId} {G G' : Mem} {L L' : MemL} {O O' : MemO} (hG : G' k = G k) (hL : L' k = L k) (hO : O' k = O k) : entE k x ad cy G' L' O' = entE k x ad cy G L O := by
  have h1 : (fun j d => fval k ad G' O' j d) = fun j d => fval k ad G O j d := by
    funext j d
    match d with
    | 0 => simp [fval, hG]
    | 1 => simp [fval, hO]
    | q + 2 => rfl
  unfold entE entF
  rw [h1, hG, hL, hO]
theorem wS_at {K : List Nat} {sh : Nat → Ent} {ad : Nat → Nat} {cy : Nat → ClassId} {G : Mem} {L : MemL} {O : MemO} {X : va_W} {k : Nat} (hk : k ∈ K) : ∃ p : Nat, (wS K sh ad cy G L O ++ X)[p]? = some (ad k, entE k (sh k) ad cy G L O) ∧ K[p]? = some k := by
  obtain ⟨p, hp⟩ := List.getElem?_of_mem hk
  have hl : p < K.length := (List.getElem?_eq_some_iff.mp hp).1
  refine ⟨p, ?_, hp⟩
  rw [List.getElem?_append_left (by simpa [wS] using hl)]
  simp [wS, List.getElem?_map, hp]
theorem wS_in {K : List Nat} {sh : Nat → Ent} {ad : Nat → Nat} {cy : Nat → ClassId} {G : Mem} {L : MemL} {O : MemO} {X : va_W} {p k : Nat} (hp : K[p]? = some k) : (wS K sh ad cy G L O ++ X)[p]? = some (ad k, entE k (sh k) ad cy G L O) := by
  have hl : p < K.length := (List.getElem?_eq_some_iff.mp hp).1
  rw [List.getElem?_append_left (by simpa [wS] using hl)]
  simp [wS, List.getElem?_map, hp]
theorem wS_fst {K : List Nat} {sh : Nat → Ent} {ad : Nat → Nat} {cy : Nat → ClassId} {G : Mem} {L : MemL} {O : MemO} {X : va_W} : (wS K sh ad cy G L O ++ X).map Prod.fst = K.map ad ++ X.map Prod.fst := by
  simp [wS, Function.comp_def]
theorem wS_set {A : Nat → Prop} {K : List Nat} {sh : Nat → Ent} {ad : Nat → Nat} {cy : Nat → ClassId} {G G' : Mem} {L L' : MemL} {O O' : MemO} {X : va_W} {p k : Nat} (hD : va_D A (wS K sh ad cy G L O ++ X)) (hp : K[p]? = some k) (hG : ∀ j, j ≠ k → G' j = G j) (hL : ∀ j, j ≠ k → L' j = L j) (hO : ∀ j, j ≠ k → O' j = O j) :
    (wS K sh ad cy G L O ++ X).set p (ad k, entE k (sh k) ad cy G' L' O') = wS K sh ad cy G' L' O' ++ X := by
  have hl : p < K.length := (List.getElem?_eq_some_iff.mp hp).1
  have hlen : ∀ (G : Mem) (L : MemL) (O : MemO), (wS K sh ad cy G L O).length = K.length := fun G L O => by simp [wS]
  apply List.ext_getElem?
  intro i
  rw [List.getElem?_set]
  by_cases h : p = i
  · subst h
    rw [if_pos rfl, if_pos (by rw [List.length_append, hlen]; omega), wS_in hp]
  · rw [if_neg h]
    by_cases hi : i < K.length
    · rw [List.getElem?_append_left (by rw [hlen]; exact hi), List.getElem?_append_left (by rw [hlen]; exact hi)]
      have hk : K[i]? = some K[i] := List.getElem?_eq_getElem hi
      have hne : K[i] ≠ k := fun q => h (hD.1 p i _ _ (wS_in hp) (wS_in hk) (by show ad k = ad K[i]; rw [q]))
      simp only [wS, List.getElem?_map, hk, Option.map_some]
      rw [entE_congr (hG _ hne) (hL _ hne) (hO _ hne)]
    · rw [List.getElem?_append_right (by rw [hlen]; omega), List.getElem?_append_right (by rw [hlen]; omega), hlen, hlen]
/-- the addresses alone decide whether a world is apart -/
theorem va_D.fst {A : Nat → Prop} {w1 w2 : va_W} (h : w1.map Prod.fst = w2.map Prod.fst) (hD : va_D A w1) : va_D A w2 := by
  have key : ∀ (k : Nat) (q : Nat × va_E), w2[k]? = some q → ∃ q0, w1[k]? = some q0 ∧ q0.1 = q.1 := by
    intro k q hk
    have h1 : (w1.map Prod.fst)[k]? = some q.1 := by rw [h, List.getElem?_map, hk]; rfl
    rw [List.getElem?_map] at h1
    cases hq : w1[k]? with
    | none => rw [hq] at h1; cases h1
    | some q0 => rw [hq] at h1; exact ⟨q0, rfl, Option.some.inj h1⟩
  refine ⟨fun i j x y hi hj hxy => ?_, fun k q hk => ?_⟩
  · obtain ⟨x0, h1, h2⟩ := key i x hi
    obtain ⟨y0, h3, h4⟩ := key j y hj
    exact hD.1 i j x0 y0 h1 h3 (h2.trans (hxy.trans h4.symm))
  · obtain ⟨q0, h1, h2⟩ := key k q hk
    rw [← h2]
    exact hD.2 k q0 h1
theorem wS_D {A : Nat → Prop} {K : List Nat} {sh : Nat → Ent} {ad : Nat → Nat} {cy : Nat → ClassId} {G G' : Mem} {L L' : MemL} {O O' : MemO} {X : va_W} (hD : va_D A (wS K sh ad cy G L O ++ X)) : va_D A (wS K sh ad cy G' L' O' ++ X) := va_D.fst (by rw [wS_fst, wS_fst]) hD
/-- the cells of a world, by their addresses -/
def AS (K : List Nat) (ad : Nat → Nat) (X : va_W) : Nat → Prop := fun q => q ∈ K.map ad ++ X.map Prod.fst
theorem AS_D {A : Nat → Prop} {K : List Nat} {sh : Nat → Ent} {ad : Nat → Nat} {cy : Nat → ClassId} {G : Mem} {L : MemL} {O : MemO} {X : va_W} (hD : va_D A (wS K sh ad cy G L O ++ X)) : ∀ q, AS K ad X q → A q := by
  intro q h
  unfold AS at h
  rw [← wS_fst (sh := sh) (cy := cy) (G := G) (L := L) (O := O)] at h
  obtain ⟨x, hx, rfl⟩ := List.mem_map.mp h
  obtain ⟨i, hi⟩ := List.getElem?_of_mem hx
  exact hD.2 i x hi
theorem AS_self {A : Nat → Prop} {K : List Nat} {sh : Nat → Ent} {ad : Nat → Nat} {cy : Nat → ClassId} {G : Mem} {L : MemL} {O : MemO} {X : va_W} (hD : va_D A (wS K sh ad cy G L O ++ X)) : va_D (AS K ad X) (wS K sh ad cy G L O ++ X) := ⟨hD.1, fun k q hk => by
  unfold AS
  rw [← wS_fst (sh := sh) (cy := cy) (G := G) (L := L) (O := O)]
  exact List.mem_map.mpr ⟨q, List.mem_of_getElem? hk, rfl⟩⟩
-- what is known of the machine's tables
def tysS (cy : Nat → ClassId) : List (ClassId × FieldType) := [(cy 1, .int), (cy 2, .byte), (cy 3, .boolean), (cy 4, .char), (cy 5, .long), (cy 6, .object RX7), (cy 7, .object RX9), (cy 8, .object RX6)]
def nestF : List (String × Nat × String × String × String × String) := [(RX11, 154, RX5, "size", "I", RX11), (RX11, 155, RX5, "place", "I", RX11), (RX11, 195, RX1, "often", "[I", RX11), (RX11, 214, RX1, "plan", "[J", RX11), (RX11, 168, RX1, "now", "I", RX11)]
def nestM : List (String × Nat × MethodName × String) := [(RX11, 34, yX5_init, RX11), (RX11, 70, yX6_init, RX11), (RX10, 21, yX11_truth, RX11), (RX1, 78, yX11_outside, RX11), (RX1, 112, yX11_isPlan, RX11), (RX1, 133, yX11_truth, RX11), (RX9, 21, yX11_outside, RX11), (RX9, 27, yX11_truth, RX11), (RX1, 150, yX11_sumOf, RX11)]
def KS (D : va_G) (cy : Nat → ClassId) (U : State) : Prop := va_K D vwCl (tysS cy) U ∧ (∀ q ∈ nestF, va_Nw (.fieldLinkNest q.1 q.2.1 q.2.2.1 q.2.2.2.1 q.2.2.2.2.1 q.2.2.2.2.2) U) ∧ ∀ q ∈ nestM, va_Nw (.methodLinkNest q.1 q.2.1 q.2.2.1 q.2.2.2) U
theorem KS.warm {D : va_G} {cy : Nat → ClassId} {s U : State} (hW : s.WarmedH U.vm) (h : KS D cy s) : KS D cy U := ⟨va_K.moved hW.alike h.1, fun q hq => va_Nw.warmF hW (h.2.1 q hq), fun q hq => va_Nw.warmM hW (h.2.2 q hq)⟩
theorem KS.calling {D : va_G} {cy : Nat → ClassId} {U : State} (g : JFrame) (mk : MethodId) (a : Array Value) (h : KS D cy U) : KS D cy (U.calling g mk a) := ⟨va_K.moved (u := U) (U := U.calling g mk a) (Vm.Alike.refl U.vm) h.1, fun q hq => va_Nw.same rfl rfl (h.2.1 q hq), fun q hq => va_Nw.same rfl rfl (h.2.2 q hq)⟩
/-- a further fact of a start: stays while nothing but the cells A change -/
def Bcl (A : Nat → Prop) (B : State → Prop) : Prop := (∀ (s U : State), s.WarmedH U.vm → s.heap.size ≤ U.heap.size → (∀ q : Nat, q < s.heap.size → ¬ A q → U.heap[q]? = s.heap[q]?) → B s → B U) ∧ ∀ (U : State) (g : JFrame) (mk : MethodId) (a : Array Value), B U → B (U.calling g mk a)
def PS (D : va_G) (K : List Nat) (sh : Nat → Ent) (ad : Nat → Nat) (cy : Nat → ClassId) (X : va_W) (B : State → Prop) (G : Mem) (L : MemL) (O : MemO) (U : State) : Prop := va_P D vwCl (wS K sh ad cy G L O ++ X) U.heap ∧ va_D (fun _ => True) (wS K sh ad cy G L O ++ X) ∧ KS D cy U ∧ B U
def IS (D : va_G) (K : List Nat) (sh : Nat → Ent) (ad : Nat → Nat) (cy : Nat → ClassId) (X : va_W) (A : Nat → Prop) (H0 H : Heap) (locs : List Loc) (G : Mem) (L : MemL) (O : MemO) : Prop := va_P D vwCl (wS K sh ad cy G L O ++ X) H ∧ va_D A (wS K sh ad cy G L O ++ X) ∧ va_S A H0 H locs
def PH (D : va_G) (K : List Nat) (sh : Nat → Ent) (ad : Nat → Nat) (cy : Nat → ClassId) (X : va_W) (G : Mem) (L : MemL) (O : MemO) (H : Heap) : Prop := va_P D vwCl (wS K sh ad cy G L O ++ X) H
def wsU (y : MethodName) (cc : ByteArray) (mL : Nat) (ret : Option FieldType) : List Cond := Cond.code y cc mL ret :: UU
def rmX (lv k n : Nat) : Room := { frames := lv, cells := k, slots := n, locals := 40 * lv }
def QI (A : Nat → Prop) (P1 : Heap → Prop) (v : Int32) : Array Value → State → Outcome → State → Prop := va_Qi (fun (r : Int32) (_ : Unit) => r = v) (fun _ t => P1 t.heap) A
def QL (A : Nat → Prop) (P1 : Heap → Prop) (v : Int64) : Array Value → State → Outcome → State → Prop := va_Ql (fun (r : Int64) (_ : Unit) => r = v) (fun _ t => P1 t.heap) A
def QV (A : Nat → Prop) (P1 : Heap → Prop) : Array Value → State → Outcome → State → Prop := va_Qv (fun (_ : Unit) => True) (fun _ t => P1 t.heap) A
-- the start of a method, its words used
/-- what is fixed in a walk -/
def Cx (p : Program) (s : State) (m : MethodId) (args : Array Value) (meth : Method) (c : Code) (own : String) (cc : ByteArray) (mL : Nat) (ret : Option FieldType) : Prop := p.tables.exec = Jvm.exec ∧ c.code = cc ∧ meth.sig.returnType = ret ∧ c.maxLocals = mL ∧ s.vm.findClass own = some m.cls ∧ (∀ w ∈ UU, w.before args s = true) ∧ meth.locks = false
section LY
variable {p : Program} {l : Launch} {e : Env} {R : Room} {s : State} {m : MethodId} {args : Array Value} {below : List Frame} {meth : Method} {c : Code} {H H0 : Heap} {locs : List Loc} {cells slots : Nat} {Q : State → Prop}
variable {cc : ByteArray} {pc : Nat} {ls : Array Slot} {rest : List Value} {D : va_G} {K : List Nat} {sh : Nat → Ent} {ad : Nat → Nat} {cy : Nat → ClassId} {X : va_W} {A : Nat → Prop} {B : State → Prop} {G : Mem} {L : MemL} {O : MemO} {k n : Nat} {fl : List Nat}
set_option maxHeartbeats 1000000 in
theorem s_met {y : MethodName} {mL lv mc ms : Nat} {ret : Option FieldType} {vs : List Value} {Qc : Array Value → State → Outcome → State → Prop} (hy : plainName y.cls = true) (hn : (lg_sl vs).length ≤ mL)
    (body : ∀ (p : Program) (e : Env) (s : State) (m : MethodId) (args : Array Value) (below : List Frame) (meth : Method) (c : Code) (ls : Array Slot) (H : Heap) (locs : List Loc), Cx p s m args meth c y.cls cc mL ret → KS D cy s → B s → meth.name = y.name → IS D K sh ad cy X (AS K ad X) s.heap H locs G L O → lv_has ls mL (lv_args 0 vs) →
      W p l e (rmX lv mc ms) s m args below meth c H locs 0 0 (MQ below Qc args s mc ms (AS K ad X)) (F0 m 0 ls [])) :
    Met l y (wsU y cc mL ret) (rmX lv mc ms) (va_Pc vs (PS D K sh ad cy X B G L O)) Qc mc ms (AS K ad X) := by
  refine Met.ofW (cc := cc) (maxL := mL) (ret := ret) hy rfl ?_
  intro p e s m args below meth c s₁ E hml hv
  obtain ⟨rfl, hP, hD, hK, hB⟩ := hv
  have hts := atoms_spec (ws := wsU y cc mL ret) E.pre
  rw [lg_entry_eq]
  exact body p e s m _ below meth c _ s.heap [] ⟨E.exec, E.bytes, E.returns, hml, findClass_of_methodNamed E.named, fun w h => hts w (List.mem_cons_of_mem _ h), E.notSynchronized⟩ hK hB (name_of_methodNamed E.named E.method).1 ⟨hP, AS_self hD, va_S.rf⟩ (lv_entry vs hn)
-- fields
theorem s_get {own ref C : String} {T : u_T} {N ci index : Nat} (hx : p.tables.exec = Jvm.exec) (hb : c.code = cc) (hu : ∀ w ∈ UU, w.before args s = true) (hin : ∀ w ∈ u_ws C T N, w ∈ UU) (hown : s.vm.findClass own = some m.cls) (hK : KS D cy s) (hI : IS D K sh ad cy X A H0 H locs G L O) (hE : k ∈ K ∧ sh k = (0, ci, fl)) (hc : vwCl[ci]? = some (C, T, N)) (j : Nat) (hj : j < N) (hlink : Cond.fieldLink own index ref (T j).2.1 (T j).2.2.1 ∈ UU) (hsame : ∀ x, s.fieldFound? (T j).1 (T j).2.1 (T j).2.2.1 = some x → s.fieldFound? ref (T j).2.1 (T j).2.2.1 = some x) {d : Nat} (hf : fl[j]? = some d) {v : Value} (hv : fval k ad G O j d = v) (hdg : decode cc pc = .ok (.getfield index, 3))
    (kk : W p l e R s m args below meth c H locs cells slots Q (F0 m (pc + 3) ls (v :: rest))) : W p l e R s m args below meth c H locs cells slots Q (F0 m pc ls (.ref (ad k) :: rest)) := by
  obtain ⟨q, hq, -⟩ := wS_at (sh := sh) (ad := ad) (cy := cy) (G := G) (L := L) (O := O) (X := X) hE.1
  rw [entE_o hE.2] at hq
  exact va_get hx hb hu hin hown hK.1 hI.1 q hq hc j hj (hu _ hlink) hsame (by rw [entF_at hf, hv]) hdg kk
theorem s_getN {own ref C host : String} {T : u_T} {N ci index : Nat} (hx : p.tables.exec = Jvm.exec) (hb : c.code = cc) (hu : ∀ w ∈ UU, w.before args s = true) (hin : ∀ w ∈ u_ws C T N, w ∈ UU) (hown : s.vm.findClass own = some m.cls) (hK : KS D cy s) (hI : IS D K sh ad cy X A H0 H locs G L O) (hE : k ∈ K ∧ sh k = (0, ci, fl)) (hc : vwCl[ci]? = some (C, T, N)) (j : Nat) (hj : j < N) (hlink : (own, index, ref, (T j).2.1, (T j).2.2.1, host) ∈ nestF) (hsame : ∀ x, s.fieldFound? (T j).1 (T j).2.1 (T j).2.2.1 = some x → s.fieldFound? ref (T j).2.1 (T j).2.2.1 = some x) {d : Nat} (hf : fl[j]? = some d) {v : Value} (hv : fval k ad G O j d = v) (hdg : decode cc pc = .ok (.getfield index, 3))
    (kk : W p l e R s m args below meth c H locs cells slots Q (F0 m (pc + 3) ls (v :: rest))) : W p l e R s m args below meth c H locs cells slots Q (F0 m pc ls (.ref (ad k) :: rest)) := by
  obtain ⟨q, hq, -⟩ := wS_at (sh := sh) (ad := ad) (cy := cy) (G := G) (L := L) (O := O) (X := X) hE.1
  rw [entE_o hE.2] at hq
  exact va_getN hx hb hu hin hown hK.1 hI.1 q hq hc j hj (va_Nw.use rfl (hK.2.1 _ hlink)) hsame (by rw [entF_at hf, hv]) hdg kk
theorem s_put {own ref C : String} {T : u_T} {N ci index : Nat} {ty0 : Nat → FieldType} (hx : p.tables.exec = Jvm.exec) (hb : c.code = cc) (hu : ∀ w ∈ UU, w.before args s = true) (hin : ∀ w ∈ u_ws C T N, w ∈ UU) (hty : ∀ k, k < N → parseFieldDescriptor (T k).2.2.1 = some (ty0 k)) (hnm : ∀ a, a < N → ∀ b, b < N → a ≠ b → (T a).2.1 ≠ (T b).2.1) (hown : s.vm.findClass own = some m.cls) (hK : KS D cy s) (hI : IS D K sh ad cy X A H0 H locs G L O) (hE : k ∈ K ∧ sh k = (0, ci, fl)) (hc : vwCl[ci]? = some (C, T, N)) (j : Nat) (hj : j < N) (hlink : Cond.fieldLink own index ref (T j).2.1 (T j).2.2.1 ∈ UU) (hsame : ∀ x, s.fieldFound? (T j).1 (T j).2.1 (T j).2.2.1 = some x → s.fieldFound? ref (T j).2.1 (T j).2.2.1 = some x) (hfin : (T j).2.2.2 = false) (hf : fl[j]? = some 0) {ty : FieldType} {x : Int32} (hd : parseFieldDescriptor (T j).2.2.1 = some ty) (hn : narrow ty (.int x) = .int x) (hfit : fits ty (.int x) = true) {G1 : Mem} (hG : G1 = up2 G k j x) (hdg : decode cc pc = .ok (.putfield index, 3))
    (kk : ∀ (H : Heap) (locs : List Loc), IS D K sh ad cy X A H0 H locs G1 L O → W p l e R s m args below meth c H locs cells slots Q (F0 m (pc + 3) ls rest)) : W p l e R s m args below meth c H locs cells slots Q (F0 m pc ls (.int x :: .ref (ad k) :: rest)) := by
  obtain ⟨hP, hD, hS⟩ := hI
  obtain ⟨q, hq, hKq⟩ := wS_at (sh := sh) (ad := ad) (cy := cy) (G := G) (L := L) (O := O) (X := X) hE.1
  rw [entE_o hE.2] at hq
  subst hG
  refine va_put hx hb hu hin ty0 hty hnm hown hK.1 hP hD hS q hq hc j hj (hu _ hlink) hsame hfin hd hn hfit (by rw [entF_len]; exact (List.getElem?_eq_some_iff.mp hf).1) hdg (fun H1 locs1 hP1 hD1 hS1 => ?_)
  have h1 : (ad k, (Sum.inr (ci, (entF k ad G O fl).set j (.int x)) : va_E)) = (ad k, entE k (sh k) ad cy (up2 G k j x) L O) := by rw [entE_o hE.2, entF_set hf]
  rw [h1, wS_set hD hKq (fun j hj => up2_n G _ _ hj) (fun _ _ => rfl) (fun _ _ => rfl)] at hP1
  exact kk H1 locs1 ⟨hP1, wS_D hD, hS1⟩
theorem s_putO {own ref C : String} {T : u_T} {N ci index : Nat} {ty0 : Nat → FieldType} (hx : p.tables.exec = Jvm.exec) (hb : c.code = cc) (hu : ∀ w ∈ UU, w.before args s = true) (hin : ∀ w ∈ u_ws C T N, w ∈ UU) (hty : ∀ k, k < N → parseFieldDescriptor (T k).2.2.1 = some (ty0 k)) (hnm : ∀ a, a < N → ∀ b, b < N → a ≠ b → (T a).2.1 ≠ (T b).2.1) (hown : s.vm.findClass own = some m.cls) (hK : KS D cy s) (hI : IS D K sh ad cy X A H0 H locs G L O) (hE : k ∈ K ∧ sh k = (0, ci, fl)) (hc : vwCl[ci]? = some (C, T, N)) (j : Nat) (hj : j < N) (hlink : Cond.fieldLink own index ref (T j).2.1 (T j).2.2.1 ∈ UU) (hsame : ∀ x, s.fieldFound? (T j).1 (T j).2.1 (T j).2.2.1 = some x → s.fieldFound? ref (T j).2.1 (T j).2.2.1 = some x) (hfin : (T j).2.2.2 = false) (hf : fl[j]? = some 1) {ty : FieldType} {x : Option Nat} {v : Value} (hv : v = va_rf (x.map ad)) (hd : parseFieldDescriptor (T j).2.2.1 = some ty) (hn : narrow ty v = v) (hfit : fits ty v = true) {O1 : MemO} (hO : O1 = up2 O k j x) (hdg : decode cc pc = .ok (.putfield index, 3))
    (kk : ∀ (H : Heap) (locs : List Loc), IS D K sh ad cy X A H0 H locs G L O1 → W p l e R s m args below meth c H locs cells slots Q (F0 m (pc + 3) ls rest)) : W p l e R s m args below meth c H locs cells slots Q (F0 m pc ls (v :: .ref (ad k) :: rest)) := by
  obtain ⟨hP, hD, hS⟩ := hI
  obtain ⟨q, hq, hKq⟩ := wS_at (sh := sh) (ad := ad) (cy := cy) (G := G) (L := L) (O := O) (X := X) hE.1
  rw [entE_o hE.2] at hq
  subst hO
  refine va_put hx hb hu hin ty0 hty hnm hown hK.1 hP hD hS q hq hc j hj (hu _ hlink) hsame hfin hd hn hfit (by rw [entF_len]; exact (List.getElem?_eq_some_iff.mp hf).1) hdg (fun H1 locs1 hP1 hD1 hS1 => ?_)
  have h1 : (ad k, (Sum.inr (ci, (entF k ad G O fl).set j v) : va_E)) = (ad k, entE k (sh k) ad cy G L (up2 O k j x)) := by rw [entE_o hE.2, entF_setO hf, hv]
  rw [h1, wS_set hD hKq (fun _ _ => rfl) (fun _ _ => rfl) (fun j hj => up2_n O _ _ hj)] at hP1
  exact kk H1 locs1 ⟨hP1, wS_D hD, hS1⟩
-- arrays
theorem s_ild (hx : p.tables.exec = Jvm.exec) (hb : c.code = cc) (hK : KS D cy s) (hI : IS D K sh ad cy X A H0 H locs G L O) (hE : k ∈ K ∧ sh k = (1, n, fl)) {i : Int32} (hin : vp_in i n) (hdg : decode cc pc = .ok (.iaload, 1))
    (kk : W p l e R s m args below meth c H locs cells slots Q (F0 m (pc + 1) ls (.int (G k i.toNatClampNeg) :: rest))) : W p l e R s m args below meth c H locs cells slots Q (F0 m pc ls (.int i :: .ref (ad k) :: rest)) := by
  obtain ⟨q, hq, -⟩ := wS_at (sh := sh) (ad := ad) (cy := cy) (G := G) (L := L) (O := O) (X := X) hE.1
  rw [entE_1 hE.2] at hq
  exact va_iald hx hb hK.1 hI.1 q 0 hq rfl hin hdg kk
theorem s_bld (hx : p.tables.exec = Jvm.exec) (hb : c.code = cc) (hK : KS D cy s) (hI : IS D K sh ad cy X A H0 H locs G L O) (hE : k ∈ K ∧ sh k = (2, n, fl)) {i : Int32} (hin : vp_in i n) (hdg : decode cc pc = .ok (.baload, 1))
    (kk : W p l e R s m args below meth c H locs cells slots Q (F0 m (pc + 1) ls (.int (G k i.toNatClampNeg) :: rest))) : W p l e R s m args below meth c H locs cells slots Q (F0 m pc ls (.int i :: .ref (ad k) :: rest)) := by
  obtain ⟨q, hq, -⟩ := wS_at (sh := sh) (ad := ad) (cy := cy) (G := G) (L := L) (O := O) (X := X) hE.1
  rw [entE_2 hE.2] at hq
  exact va_bald hx hb hK.1 hI.1 q 1 hq rfl hin hdg kk
theorem s_zld (hx : p.tables.exec = Jvm.exec) (hb : c.code = cc) (hK : KS D cy s) (hI : IS D K sh ad cy X A H0 H locs G L O) (hE : k ∈ K ∧ sh k = (3, n, fl)) {i : Int32} (hin : vp_in i n) (hdg : decode cc pc = .ok (.baload, 1))
    (kk : W p l e R s m args below meth c H locs cells slots Q (F0 m (pc + 1) ls (.int (G k i.toNatClampNeg) :: rest))) : W p l e R s m args below meth c H locs cells slots Q (F0 m pc ls (.int i :: .ref (ad k) :: rest)) := by
  obtain ⟨q, hq, -⟩ := wS_at (sh := sh) (ad := ad) (cy := cy) (G := G) (L := L) (O := O) (X := X) hE.1
  rw [entE_3 hE.2] at hq
  exact va_zald hx hb hK.1 hI.1 q 2 hq rfl hin hdg kk
theorem s_cld (hx : p.tables.exec = Jvm.exec) (hb : c.code = cc) (hK : KS D cy s) (hI : IS D K sh ad cy X A H0 H locs G L O) (hE : k ∈ K ∧ sh k = (4, n, fl)) {i : Int32} (hin : vp_in i n) (hdg : decode cc pc = .ok (.caload, 1))
    (kk : W p l e R s m args below meth c H locs cells slots Q (F0 m (pc + 1) ls (.int (G k i.toNatClampNeg) :: rest))) : W p l e R s m args below meth c H locs cells slots Q (F0 m pc ls (.int i :: .ref (ad k) :: rest)) := by
  obtain ⟨q, hq, -⟩ := wS_at (sh := sh) (ad := ad) (cy := cy) (G := G) (L := L) (O := O) (X := X) hE.1
  rw [entE_4 hE.2] at hq
  exact va_cald hx hb hK.1 hI.1 q 3 hq rfl hin hdg kk
theorem s_lld (hx : p.tables.exec = Jvm.exec) (hb : c.code = cc) (hK : KS D cy s) (hI : IS D K sh ad cy X A H0 H locs G L O) (hE : k ∈ K ∧ sh k = (5, n, fl)) {i : Int32} (hin : vp_in i n) (hdg : decode cc pc = .ok (.laload, 1))
    (kk : W p l e R s m args below meth c H locs cells slots Q (F0 m (pc + 1) ls (.long (L k i.toNatClampNeg) :: rest))) : W p l e R s m args below meth c H locs cells slots Q (F0 m pc ls (.int i :: .ref (ad k) :: rest)) := by
  obtain ⟨q, hq, -⟩ := wS_at (sh := sh) (ad := ad) (cy := cy) (G := G) (L := L) (O := O) (X := X) hE.1
  rw [entE_l hE.2] at hq
  exact va_lald hx hb hK.1 hI.1 q 4 hq rfl hin hdg kk
theorem s_ald {C : String} {t t0 : Nat} (ht : 6 ≤ t) (hty : (tysS cy)[t0]? = some (cy t, .object C)) (hx : p.tables.exec = Jvm.exec) (hb : c.code = cc) (hK : KS D cy s) (hI : IS D K sh ad cy X A H0 H locs G L O) (hE : k ∈ K ∧ sh k = (t, n, fl)) {i : Int32} (hin : vp_in i n) (hdg : decode cc pc = .ok (.aaload, 1))
    (kk : W p l e R s m args below meth c H locs cells slots Q (F0 m (pc + 1) ls (va_rf ((O k i.toNatClampNeg).map ad) :: rest))) : W p l e R s m args below meth c H locs cells slots Q (F0 m pc ls (.int i :: .ref (ad k) :: rest)) := by
  obtain ⟨q, hq, -⟩ := wS_at (sh := sh) (ad := ad) (cy := cy) (G := G) (L := L) (O := O) (X := X) hE.1
  rw [entE_r ht hE.2] at hq
  exact va_aldq hx hb hK.1 hI.1 q t0 hq hty hin hdg kk
theorem s_ist (hx : p.tables.exec = Jvm.exec) (hb : c.code = cc) (hK : KS D cy s) (hI : IS D K sh ad cy X A H0 H locs G L O) (hE : k ∈ K ∧ sh k = (1, n, fl)) {i x : Int32} (hin : vp_in i n) {G1 : Mem} (hG : G1 = up2 G k i.toNatClampNeg x) (hdg : decode cc pc = .ok (.iastore, 1))
    (kk : ∀ (H : Heap) (locs : List Loc), IS D K sh ad cy X A H0 H locs G1 L O → W p l e R s m args below meth c H locs cells slots Q (F0 m (pc + 1) ls rest)) : W p l e R s m args below meth c H locs cells slots Q (F0 m pc ls (.int x :: .int i :: .ref (ad k) :: rest)) := by
  obtain ⟨hP, hD, hS⟩ := hI
  obtain ⟨q, hq, hKq⟩ := wS_at (sh := sh) (ad := ad) (cy := cy) (G := G) (L := L) (O := O) (X := X) hE.1
  rw [entE_1 hE.2] at hq
  subst hG
  refine va_iast hx hb hK.1 hP hD hS q 0 hq rfl hin hdg (fun H1 locs1 hP1 hD1 hS1 => ?_)
  have h1 : (ad k, (Sum.inl (cy 1, (n, .inl (upd (G k) i.toNatClampNeg x))) : va_E)) = (ad k, entE k (sh k) ad cy (up2 G k i.toNatClampNeg x) L O) := by rw [entE_1 hE.2, up2_a]; rfl
  rw [h1, wS_set hD hKq (fun j hj => up2_n G _ _ hj) (fun _ _ => rfl) (fun _ _ => rfl)] at hP1
  exact kk H1 locs1 ⟨hP1, wS_D hD, hS1⟩
theorem s_bst (hx : p.tables.exec = Jvm.exec) (hb : c.code = cc) (hK : KS D cy s) (hI : IS D K sh ad cy X A H0 H locs G L O) (hE : k ∈ K ∧ sh k = (2, n, fl)) {i x : Int32} (hin : vp_in i n) {G1 : Mem} (hG : G1 = up2 G k i.toNatClampNeg (vp_nar .byte x)) (hdg : decode cc pc = .ok (.bastore, 1))
    (kk : ∀ (H : Heap) (locs : List Loc), IS D K sh ad cy X A H0 H locs G1 L O → W p l e R s m args below meth c H locs cells slots Q (F0 m (pc + 1) ls rest)) : W p l e R s m args below meth c H locs cells slots Q (F0 m pc ls (.int x :: .int i :: .ref (ad k) :: rest)) := by
  obtain ⟨hP, hD, hS⟩ := hI
  obtain ⟨q, hq, hKq⟩ := wS_at (sh := sh) (ad := ad) (cy := cy) (G := G) (L := L) (O := O) (X := X) hE.1
  rw [entE_2 hE.2] at hq
  subst hG
  refine va_bast hx hb hK.1 hP hD hS q 1 hq rfl hin hdg (fun H1 locs1 hP1 hD1 hS1 => ?_)
  have h1 : (ad k, (Sum.inl (cy 2, (n, .inl (upd (G k) i.toNatClampNeg (vp_nar .byte x)))) : va_E)) = (ad k, entE k (sh k) ad cy (up2 G k i.toNatClampNeg (vp_nar .byte x)) L O) := by rw [entE_2 hE.2, up2_a]; rfl
  rw [h1, wS_set hD hKq (fun j hj => up2_n G _ _ hj) (fun _ _ => rfl) (fun _ _ => rfl)] at hP1
  exact kk H1 locs1 ⟨hP1, wS_D hD, hS1⟩
theorem s_zst (hx : p.tables.exec = Jvm.exec) (hb : c.code = cc) (hK : KS D cy s) (hI : IS D K sh ad cy X A H0 H locs G L O) (hE : k ∈ K ∧ sh k = (3, n, fl)) {i x : Int32} (hin : vp_in i n) {G1 : Mem} (hG : G1 = up2 G k i.toNatClampNeg (vp_nar .boolean x)) (hdg : decode cc pc = .ok (.bastore, 1))
    (kk : ∀ (H : Heap) (locs : List Loc), IS D K sh ad cy X A H0 H locs G1 L O → W p l e R s m args below meth c H locs cells slots Q (F0 m (pc + 1) ls rest)) : W p l e R s m args below meth c H locs cells slots Q (F0 m pc ls (.int x :: .int i :: .ref (ad k) :: rest)) := by
  obtain ⟨hP, hD, hS⟩ := hI
  obtain ⟨q, hq, hKq⟩ := wS_at (sh := sh) (ad := ad) (cy := cy) (G := G) (L := L) (O := O) (X := X) hE.1
  rw [entE_3 hE.2] at hq
  subst hG
  refine va_zast hx hb hK.1 hP hD hS q 2 hq rfl hin hdg (fun H1 locs1 hP1 hD1 hS1 => ?_)
  have h1 : (ad k, (Sum.inl (cy 3, (n, .inl (upd (G k) i.toNatClampNeg (vp_nar .boolean x)))) : va_E)) = (ad k, entE k (sh k) ad cy (up2 G k i.toNatClampNeg (vp_nar .boolean x)) L O) := by rw [entE_3 hE.2, up2_a]; rfl
  rw [h1, wS_set hD hKq (fun j hj => up2_n G _ _ hj) (fun _ _ => rfl) (fun _ _ => rfl)] at hP1
  exact kk H1 locs1 ⟨hP1, wS_D hD, hS1⟩
theorem s_cst (hx : p.tables.exec = Jvm.exec) (hb : c.code = cc) (hK : KS D cy s) (hI : IS D K sh ad cy X A H0 H locs G L O) (hE : k ∈ K ∧ sh k = (4, n, fl)) {i x : Int32} (hin : vp_in i n) {G1 : Mem} (hG : G1 = up2 G k i.toNatClampNeg (vp_nar .char x)) (hdg : decode cc pc = .ok (.castore, 1))
    (kk : ∀ (H : Heap) (locs : List Loc), IS D K sh ad cy X A H0 H locs G1 L O → W p l e R s m args below meth c H locs cells slots Q (F0 m (pc + 1) ls rest)) : W p l e R s m args below meth c H locs cells slots Q (F0 m pc ls (.int x :: .int i :: .ref (ad k) :: rest)) := by
  obtain ⟨hP, hD, hS⟩ := hI
  obtain ⟨q, hq, hKq⟩ := wS_at (sh := sh) (ad := ad) (cy := cy) (G := G) (L := L) (O := O) (X := X) hE.1
  rw [entE_4 hE.2] at hq
  subst hG
  refine va_cast hx hb hK.1 hP hD hS q 3 hq rfl hin hdg (fun H1 locs1 hP1 hD1 hS1 => ?_)
  have h1 : (ad k, (Sum.inl (cy 4, (n, .inl (upd (G k) i.toNatClampNeg (vp_nar .char x)))) : va_E)) = (ad k, entE k (sh k) ad cy (up2 G k i.toNatClampNeg (vp_nar .char x)) L O) := by rw [entE_4 hE.2, up2_a]; rfl
  rw [h1, wS_set hD hKq (fun j hj => up2_n G _ _ hj) (fun _ _ => rfl) (fun _ _ => rfl)] at hP1
  exact kk H1 locs1 ⟨hP1, wS_D hD, hS1⟩
theorem s_lst (hx : p.tables.exec = Jvm.exec) (hb : c.code = cc) (hK : KS D cy s) (hI : IS D K sh ad cy X A H0 H locs G L O) (hE : k ∈ K ∧ sh k = (5, n, fl)) {i : Int32} {x : Int64} (hin : vp_in i n) {L1 : MemL} (hL : L1 = up2 L k i.toNatClampNeg x) (hdg : decode cc pc = .ok (.lastore, 1))
    (kk : ∀ (H : Heap) (locs : List Loc), IS D K sh ad cy X A H0 H locs G L1 O → W p l e R s m args below meth c H locs cells slots Q (F0 m (pc + 1) ls rest)) : W p l e R s m args below meth c H locs cells slots Q (F0 m pc ls (.long x :: .int i :: .ref (ad k) :: rest)) := by
  obtain ⟨hP, hD, hS⟩ := hI
  obtain ⟨q, hq, hKq⟩ := wS_at (sh := sh) (ad := ad) (cy := cy) (G := G) (L := L) (O := O) (X := X) hE.1
  rw [entE_l hE.2] at hq
  subst hL
  refine va_last hx hb hK.1 hP hD hS q 4 hq rfl hin hdg (fun H1 locs1 hP1 hD1 hS1 => ?_)
  have h1 : (ad k, (Sum.inl (cy 5, (n, .inr (.inl (vp_updL (L k) i.toNatClampNeg x)))) : va_E)) = (ad k, entE k (sh k) ad cy G (up2 L k i.toNatClampNeg x) O) := by rw [entE_l hE.2, up2_a]; rfl
  rw [h1, wS_set hD hKq (fun _ _ => rfl) (fun j hj => up2_n L _ _ hj) (fun _ _ => rfl)] at hP1
  exact kk H1 locs1 ⟨hP1, wS_D hD, hS1⟩
theorem s_alen {t : Nat} {ty : FieldType} {t0 : Nat} (ht : 0 < t) (hty : (tysS cy)[t0]? = some (cy t, ty)) (hx : p.tables.exec = Jvm.exec) (hb : c.code = cc) (hK : KS D cy s) (hI : IS D K sh ad cy X A H0 H locs G L O) (hE : k ∈ K ∧ sh k = (t, n, fl)) (hdg : decode cc pc = .ok (.arraylength, 1))
    (kk : W p l e R s m args below meth c H locs cells slots Q (F0 m (pc + 1) ls (.int (nI n) :: rest))) : W p l e R s m args below meth c H locs cells slots Q (F0 m pc ls (.ref (ad k) :: rest)) := by
  obtain ⟨q, hq, -⟩ := wS_at (sh := sh) (ad := ad) (cy := cy) (G := G) (L := L) (O := O) (X := X) hE.1
  have hx2 : ∃ a : vp_A, a.1 = n ∧ entE k (sh k) ad cy G L O = .inl (cy t, a) := by
    rw [hE.2]
    unfold entE
    rw [if_neg (by show ¬ t = 0; omega)]
    by_cases h5 : t = 5
    · subst h5; exact ⟨_, rfl, rfl⟩
    · rw [if_neg h5]
      by_cases h6 : 6 ≤ t
      · rw [if_pos h6]; exact ⟨_, rfl, rfl⟩
      · rw [if_neg h6]; exact ⟨_, rfl, rfl⟩
  obtain ⟨a, ha, hE2⟩ := hx2
  rw [hE2] at hq
  exact va_alen hx hb hK.1 hI.1 q t0 hq hty (by rw [ha]; rfl) hdg kk
-- ends
theorem s_iret {v : Int32} {P1 : Heap → Prop} (hx : p.tables.exec = Jvm.exec) (hb : c.code = cc) (hr : meth.sig.returnType = some .int) (hS : va_S A s.heap H locs) (hP : P1 H) (hlocks : meth.locks = false) (hdg : decode cc pc = .ok (.ireturn, 1)) : W p l e R s m args below meth c H locs cells slots (MQ below (QI A P1 v) args s cells slots A) (F0 m pc ls [.int v]) :=
  W.iret hx hb hr (fun t ht hW => ⟨⟨v, (), rfl, rfl, by show P1 t.heap; rw [ht]; exact hP⟩, hS.F ht⟩) hS.2.2 hdg hlocks
theorem s_zret {v : Int32} {P1 : Heap → Prop} {ty : FieldType} (hn : narrow ty (.int v) = .int v) (hx : p.tables.exec = Jvm.exec) (hb : c.code = cc) (hr : meth.sig.returnType = some ty) (hS : va_S A s.heap H locs) (hP : P1 H) (hlocks : meth.locks = false) (hdg : decode cc pc = .ok (.ireturn, 1)) : W p l e R s m args below meth c H locs cells slots (MQ below (QI A P1 v) args s cells slots A) (F0 m pc ls [.int v]) :=
  W.zret hx hb hr hn (fun t ht hW => ⟨⟨v, (), rfl, rfl, by show P1 t.heap; rw [ht]; exact hP⟩, hS.F ht⟩) hS.2.2 hdg hlocks
theorem s_lret {v : Int64} {P1 : Heap → Prop} (hx : p.tables.exec = Jvm.exec) (hb : c.code = cc) (hr : meth.sig.returnType = some .long) (hS : va_S A s.heap H locs) (hP : P1 H) (hlocks : meth.locks = false) (hdg : decode cc pc = .ok (.lreturn, 1)) : W p l e R s m args below meth c H locs cells slots (MQ below (QL A P1 v) args s cells slots A) (F0 m pc ls [.long v]) :=
  W.lret hx hb hr (fun t ht hW => ⟨⟨v, (), rfl, rfl, by show P1 t.heap; rw [ht]; exact hP⟩, hS.F ht⟩) hS.2.2 hdg hlocks
theorem s_vret {P1 : Heap → Prop} (hx : p.tables.exec = Jvm.exec) (hb : c.code = cc) (hr : meth.sig.returnType = none) (hS : va_S A s.heap H locs) (hP : P1 H) (hlocks : meth.locks = false) (hdg : decode cc pc = .ok (.return_, 1)) : W p l e R s m args below meth c H locs cells slots (MQ below (QV A P1) args s cells slots A) (F0 m pc ls []) :=
  W.vret hx hb hr (fun t ht hW => ⟨⟨(), rfl, trivial, by show P1 t.heap; rw [ht]; exact hP⟩, hS.F ht⟩) hS.2.2 hdg hlocks
-- calls
theorem uu_words {y : MethodName} {bytes : ByteArray} {maxL : Nat} {ret : Option FieldType} (h5 : Cond.code y bytes maxL ret ∈ UU) : GoodIn UU (wsU y bytes maxL ret) := by
  intro w hw
  have hm : w ∈ UU := by
    rcases List.mem_cons.mp hw with rfl | h
    · exact h5
    · exact h
  exact ⟨hm, good_of_word (uu_good w hm)⟩
/-- what a call needs to know of the method called -/
def Ky (y : MethodName) (bytes : ByteArray) (maxL : Nat) (ret : Option FieldType) (np : Nat) : Prop := Cond.code y bytes maxL ret ∈ UU ∧ Cond.initialized y.cls ∈ UU ∧ maxL ≤ 20 ∧ (y.cls ≠ "java/lang/invoke/MethodHandle" ∧ y.cls ≠ "java/lang/invoke/VarHandle" ∧ (parseMethodDescriptor y.desc).map (fun d => d.parameters.length) = some np)
theorem s_callB {own : String} {index maxL np lv lv' cs ss mc ms : Nat} {y : MethodName} {bytes : ByteArray} {ret : Option FieldType} (hu : ∀ w ∈ UU, w.before args s = true) (hy : Ky y bytes maxL ret np) (hlv : lv + 1 ≤ lv') (hl : Cond.methodLink own index y ∈ UU) : CallB (rmX lv' cs ss) s args own index y bytes maxL ret (wsU y bytes maxL ret) (rmX lv mc ms) mc ms np := by
  obtain ⟨h5, h4, hm, hd⟩ := hy
  exact callB_of np hu (uu_words h5) rfl rfl rfl (hu _ h4) (hu _ hl) hd ⟨hlv, by show 8 + (maxL + 11) + 40 * lv ≤ 40 * lv'; omega⟩
theorem s_callN {own host : String} {index maxL np lv lv' cs ss mc ms : Nat} {y : MethodName} {bytes : ByteArray} {ret : Option FieldType} (hu : ∀ w ∈ UU, w.before args s = true) (hK : KS D cy s) (hy : Ky y bytes maxL ret np) (hlv : lv + 1 ≤ lv') (hl : (own, index, y, host) ∈ nestM) : va_CN (rmX lv' cs ss) s args own index y host bytes maxL ret (wsU y bytes maxL ret) (rmX lv mc ms) mc ms np := by
  obtain ⟨h5, h4, hm, hd⟩ := hy
  exact va_cnB np hu (uu_words h5) rfl rfl rfl (hK.2.2 _ hl) (hu _ h4) hd ⟨hlv, by show 8 + (maxL + 11) + 40 * lv ≤ 40 * lv'; omega⟩
theorem PS_blind {vs : List Value} (hB : ∀ (U : State) (g : JFrame) (mk : MethodId) (a : Array Value), B U → B (U.calling g mk a)) : FrameBlind (va_Pc vs (PS D K sh ad cy X B G L O)) := fun a U g mk q => ⟨q.1, q.2.1, q.2.2.1, KS.calling g mk a q.2.2.2.1, hB _ _ _ _ q.2.2.2.2⟩
theorem PS_pre {A0 : Nat → Prop} (hcl : Bcl A B) (hK : KS D cy s) (hB : B s) (hI : IS D K sh ad cy X A s.heap H locs G L O) {U : State} (hU : U.heap = H) (hW : s.WarmedH U.vm) : PS D K sh ad cy X B G L O U := by
  obtain ⟨hP, hD, hS⟩ := hI
  exact ⟨by rw [hU]; exact hP, hD.weaken (fun _ _ _ _ => trivial), hK.warm hW, hcl.1 s U hW (by rw [hU]; exact hS.1) (fun q h1 h2 => by rw [hU]; exact hS.2.1 q h1 h2) hB⟩
end LY
