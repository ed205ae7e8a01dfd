-- dropping what nobody holds any more; other shapes for the same cells
def shT (sh : Nat → Ent) (tx : Nat) : Nat → Ent := fun b => if b = tx then (0, 9, flTx tx) else sh b
def lnB (x : Int32) (n : Nat) : Bool := decide (x.toNatClampNeg = n ∧ ¬ x < 0 ∧ n ≤ 160)
theorem wS_sh {K : List Nat} {sh sh2 : Nat → Ent} {ad : Nat → Nat} {cy : Nat → ClassId} {G : Mem} {L : MemL} {O : MemO} (h : ∀ k ∈ K, entE k (sh2 k) ad cy G L O = entE k (sh k) ad cy G L O) : wS K sh2 ad cy G L O = wS K sh ad cy G L O := by
  unfold wS
  exact List.map_congr_left (fun k hk => by rw [h k hk])
theorem IS_sh {D : va_G} {K : List Nat} {sh sh2 : Nat → Ent} {ad : Nat → Nat} {cy : Nat → ClassId} {X : va_W} {A : Nat → Prop} {H0 H : Heap} {locs : List Loc} {G : Mem} {L : MemL} {O : MemO} (h : ∀ k ∈ K, entE k (sh2 k) ad cy G L O = entE k (sh k) ad cy G L O) (hI : IS D K sh ad cy X A H0 H locs G L O) : IS D K sh2 ad cy X A H0 H locs G L O := by
  unfold IS
  rw [wS_sh h]
  exact hI
theorem IS_drop {D : va_G} {K K2 : List Nat} {sh : Nat → Ent} {ad : Nat → Nat} {cy : Nat → ClassId} {X : va_W} {A : Nat → Prop} {H0 H : Heap} {locs : List Loc} {G : Mem} {L : MemL} {O : MemO} (hI : IS D (K ++ K2) sh ad cy X A H0 H locs G L O) : IS D K sh ad cy X A H0 H locs G L O := by
  obtain ⟨hP, hD, hS⟩ := hI
  have e : wS (K ++ K2) sh ad cy G L O = wS K sh ad cy G L O ++ wS K2 sh ad cy G L O := by simp [wS]
  have hsub : (wS K sh ad cy G L O ++ X).Sublist (wS (K ++ K2) sh ad cy G L O ++ X) := by
    rw [e]
    exact List.Sublist.append_right (List.sublist_append_left _ _) _
  refine ⟨va_P.mem (fun x hx => hsub.subset hx) hP, va_D.perm (fun i x hi => List.getElem?_of_mem (hsub.subset (List.mem_of_getElem? hi))) ((hsub.map Prod.fst).nodup (va_D.nodup hD)) hD, hS⟩
theorem IS_perm {D : va_G} {K K2 : List Nat} {sh : Nat → Ent} {ad : Nat → Nat} {cy : Nat → ClassId} {X : va_W} {A : Nat → Prop} {H0 H : Heap} {locs : List Loc} {G : Mem} {L : MemL} {O : MemO} (hp : K2.Perm K) (hI : IS D K sh ad cy X A H0 H locs G L O) : IS D K2 sh ad cy X A H0 H locs G L O := by
  obtain ⟨hP, hD, hS⟩ := hI
  have h2 : (wS K2 sh ad cy G L O ++ X).Perm (wS K sh ad cy G L O ++ X) := (hp.map _).append_right _
  exact ⟨va_P.mem (fun x hx => h2.mem_iff.mp hx) hP, va_D.memP h2 hD, hS⟩
/-- a made text: its fields hold what they will always hold -/
theorem conv_tx {sh : Nat → Ent} {tx : Nat} {ad : Nat → Nat} {cy : Nat → ClassId} {G : Mem} {L : MemL} {O : MemO} (h0 : sh tx = (0, 9, [1, 1, 1])) (h1 : O tx 0 = some (tx + 1)) (h2 : O tx 1 = some (tx + 2)) (h3 : O tx 2 = some (tx + 3)) (k : Nat) : entE k (shT sh tx k) ad cy G L O = entE k (sh k) ad cy G L O := by
  unfold shT
  by_cases hk : k = tx
  · subst hk
    rw [if_pos rfl, entE_o (fl := flTx k) rfl, entE_o h0]
    congr 2
    simp [entF, flTx, fval, h1, h2, h3, va_rf, List.mapIdx_cons]
  · rw [if_neg hk]
