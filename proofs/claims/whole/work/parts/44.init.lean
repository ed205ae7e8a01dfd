-- the two starts agree: what is finite by running them, the rest by their form
def QPi {ρ : Type} (P : ρ → Prop) (r : Option ρ) : Prop := ∀ v, r = some v → P v
theorem qpi_none {ρ : Type} {P : ρ → Prop} : QPi P (none : Option ρ) := fun _ h => absurd h (by simp)
theorem qpi_some {ρ : Type} {P : ρ → Prop} {v : ρ} (h : P v) : QPi P (some v) := fun w hw => by
  have : v = w := by injection hw
  rw [← this]; exact h
theorem qpi_bnd {ρ α : Type} {P : ρ → Prop} {a : α} {f : α → Option ρ} (h : ∀ a, QPi P (f a)) : QPi P (bnd a f) := h a
theorem qpi_bndR {ρ : Type} {P : ρ → Prop} {a : MemO} {f : MemO → Option ρ} (ha : ORf KI a) (h : ∀ a, ORf KI a → QPi P (f a)) : QPi P (bnd a f) := h a ha
theorem qpi_chk {ρ : Type} {P : ρ → Prop} {b : Bool} {x : Option ρ} (h : QPi P x) : QPi P (chk b x) := by
  intro v hv
  obtain ⟨-, h2⟩ := chk_i hv
  exact h v h2
theorem qpi_ite {ρ : Type} {P : ρ → Prop} {c : Prop} [Decidable c] {x y : Option ρ} (h1 : QPi P x) (h2 : QPi P y) : QPi P (if c then x else y) := by
  split
  · exact h1
  · exact h2
theorem qpi_bndO {ρ α : Type} {P : ρ → Prop} {x : Option α} {f : α → Option ρ} (h : ∀ a, QPi P (f a)) : QPi P (bndO x f) := by
  cases x with
  | none => exact qpi_none
  | some a => exact h a
theorem qpi_bndP {ρ α β : Type} {P : ρ → Prop} {x : Option (α × β)} {f : α → β → Option ρ} (h : ∀ a b, QPi P (f a b)) : QPi P (bndP x f) := by
  cases x with
  | none => exact qpi_none
  | some a => exact h a.1 a.2
theorem qpi_bndPR {ρ α : Type} {P : ρ → Prop} {x : Option (α × MemO)} {f : α → MemO → Option ρ} (hx : QPi (fun v => ORf KI v.2) x) (h : ∀ a b, ORf KI b → QPi P (f a b)) : QPi P (bndP x f) := by
  cases x with
  | none => exact qpi_none
  | some a => exact h a.1 a.2 (hx a rfl)
theorem qpi_bndP3 {ρ α β γ : Type} {P : ρ → Prop} {R : β → γ → Prop} {x : Option (α × β × γ)} {f : α → β → γ → Option ρ} (hx : QPi (fun v => R v.2.1 v.2.2) x) (h : ∀ a b c, R b c → QPi P (f a b c)) : QPi P (bndP3 x f) := by
  cases x with
  | none => exact qpi_none
  | some a => exact h a.1 a.2.1 a.2.2 (hx a rfl)
theorem orf_zr {K : List Nat} {O : MemO} {k : Nat} (h : ORf K O) : ORf K (zr none O k) := by
  intro j i a ha
  unfold zr at ha
  split at ha
  · exact absurd ha (by simp)
  · exact h j i a ha
theorem orf_up {K : List Nat} {O : MemO} {b j e : Nat} (h : ORf K O) (he : e ∈ K) : ORf K (up2 O b j (some e)) := by
  intro q i a ha
  by_cases hq : q = b ∧ i = j
  · rw [hq.1, hq.2, up2_aa] at ha
    injection ha with ha
    rw [← ha]; exact he
  · rw [up2_o (by omega)] at ha
    exact h q i a ha
theorem in_q4 {e0 : Nat} {G : Mem} {O : MemO} (h : ORf KI O) (he : e0 + 1 ∈ KI ∧ e0 + 2 ∈ KI ∧ e0 + 3 ∈ KI ∧ e0 + 4 ∈ KI ∧ e0 + 5 ∈ KI) : QPi (fun v : Mem × MemO => ORf KI v.2) (f_X4_init e0 G O) := by
  obtain ⟨h1, h2, h3, h4, h5⟩ := he
  unfold f_X4_init
  exact qpi_bnd fun _ => qpi_bndR (orf_up h h1) fun _ h => qpi_bnd fun _ => qpi_bndR (orf_up h h2) fun _ h => qpi_bnd fun _ => qpi_bndR (orf_up h h3) fun _ h => qpi_bnd fun _ => qpi_bndR (orf_up h h4) fun _ h => qpi_bnd fun _ => qpi_bndR (orf_up h h5) fun _ h => qpi_bnd fun _ => qpi_bnd fun _ => qpi_bnd fun _ => qpi_chk (qpi_bndO fun _ => qpi_some h)
theorem in_q5 {G : Mem} {O : MemO} (h : ORf KI O) : QPi (fun v : Mem × MemO => ORf KI v.2) (f_X5_init G O) := by
  unfold f_X5_init
  exact qpi_bnd fun _ => qpi_bndR (orf_up h (by decide)) fun _ h => qpi_bnd fun _ => qpi_bndR (orf_up h (by decide)) fun _ h => qpi_bnd fun _ => qpi_some h
theorem in_q6 {e0 : Nat} {G : Mem} {O : MemO} (h : ORf KI O) (he : e0 + 4 ∈ KI) : QPi (fun v : Mem × MemO => ORf KI v.2) (f_X6_init e0 G O) := by
  unfold f_X6_init
  exact qpi_bnd fun _ => qpi_bndR (orf_up h he) fun _ h => qpi_bnd fun _ => qpi_bnd fun _ => qpi_some h
theorem in_q1 {G : Mem} {L : MemL} {O : MemO} (h : ORf KI O) : QPi (fun v : Mem × MemL × MemO => (fun (_ : MemL) (c : MemO) => ORf KI c) v.2.1 v.2.2) (f_X1_init G L O) := by
  unfold f_X1_init
  exact qpi_bnd fun _ => qpi_bndR (orf_up h (by decide)) fun _ h => qpi_bnd fun _ => qpi_bndR (orf_up h (by decide)) fun _ h => qpi_bnd fun _ => qpi_bndR (orf_up h (by decide)) fun _ h => qpi_bnd fun _ => qpi_bndR (orf_up h (by decide)) fun _ h => qpi_bnd fun _ => qpi_bndR (orf_up h (by decide)) fun _ h => qpi_bnd fun _ => qpi_bndR (orf_up h (by decide)) fun _ h => qpi_bnd fun _ => qpi_bndR (orf_up h (by decide)) fun _ h => qpi_bnd fun _ => qpi_bndR (orf_up h (by decide)) fun _ h => qpi_bndR (orf_up h (by decide)) fun _ h => qpi_bndR (orf_up h (by decide)) fun _ h => qpi_some h
theorem in_q9 {G : Mem} {O : MemO} (h : ORf KI O) : QPi (fun v : Mem × MemO => ORf KI v.2) (f_X9_init 2000 G O) := by
  unfold f_X9_init
  exact qpi_bnd fun _ => qpi_bndR (orf_up h (by decide)) fun _ h => qpi_bndR (orf_up h (by decide)) fun _ h => qpi_bndR (orf_up h (by decide)) fun _ h => qpi_some h
theorem in_qC {ln : Nat} {G : Mem} {O : MemO} (h : ORf KI O) : QPi (fun v : Mem × MemO × Nat => (fun (b : MemO) (_ : Nat) => ORf KI b) v.2.1 v.2.2) (f_X5_compiled 2000 ln G O) := by
  unfold f_X5_compiled
  refine qpi_bnd fun _ => qpi_bnd fun _ => qpi_bndO fun _ => qpi_bnd fun _ => ?_
  refine qpi_bndP fun _ _ => qpi_ite (qpi_some h) (qpi_bndP fun _ _ => qpi_ite (qpi_some h) (qpi_bndP fun _ _ => qpi_ite (qpi_some h) (qpi_bnd fun _ => ?_)))
  refine qpi_bndP fun _ _ => qpi_ite (qpi_some h) (qpi_bndP fun _ _ => qpi_ite (qpi_some h) (qpi_bndP fun _ _ => qpi_ite (qpi_some h) (qpi_bnd fun _ => ?_)))
  refine qpi_bndP fun _ _ => qpi_ite (qpi_some h) (qpi_bndP fun _ _ => qpi_ite (qpi_some h) (qpi_bndP fun _ _ => qpi_ite (qpi_some h) (qpi_bnd fun _ => ?_)))
  exact qpi_ite (qpi_bnd fun _ => qpi_bndR (orf_zr h) fun _ h => qpi_bndO fun _ => qpi_bndPR (in_q9 h) fun _ _ h => qpi_chk (qpi_some h)) (qpi_some h)
theorem in_qK {G : Mem} {O : MemO} (h : ORf KI O) : QPi (fun v : Mem × MemO => ORf KI v.2) (f_X11_keepText G O 2000) := by
  unfold f_X11_keepText
  exact qpi_ite (qpi_some h) (qpi_chk (qpi_bndR (orf_up h (by decide)) fun _ h => qpi_bnd fun _ => qpi_some h))
theorem in_qI {ln : Nat} (n : Nat) : ∀ (G : Mem) (L : MemL) (O : MemO) (x1 : Int32), ORf KI O → QPi (fun v : (Nat → Nat) × Mem × MemL × MemO => v.1 = stx S00 2000 ln ∧ ORf KI v.2.2.2) (iter (q_X11_init_143 2000 ln) n (G, L, O, x1)) := by
  induction n with
  | zero => intro G L O x1 h; exact qpi_none
  | succ n ih =>
    intro G L O x1 h
    exact qpi_ite (qpi_bndP3 (R := fun (b : MemO) (_ : Nat) => ORf KI b) (in_qC h) fun _ _ _ h => qpi_chk (qpi_bndPR (in_qK h) fun _ _ h => qpi_bndO fun _ => qpi_some ⟨rfl, h⟩)) (qpi_bndO fun _ => qpi_bndO fun _ => qpi_bnd fun _ => ih _ _ _ _ h)
theorem in_all {ln : Nat} {G : Mem} {L : MemL} {O : MemO} (h : ORf KI O) : QPi (fun v : (Nat → Nat) × Mem × MemL × MemO => v.1 = stx S00 2000 ln ∧ ORf KI v.2.2.2) (f_X11_init 2000 ln G L O) := by
  unfold f_X11_init
  refine qpi_bnd fun _ => qpi_bndR (orf_zr h) fun _ h => qpi_bndPR (in_q4 h (by decide)) fun _ _ h => qpi_bndR (orf_up h (by decide)) fun _ h => qpi_bnd fun _ => qpi_bndR (orf_zr h) fun _ h => qpi_bndPR (in_q4 h (by decide)) fun _ _ h => qpi_bndR (orf_up h (by decide)) fun _ h => qpi_bnd fun _ => qpi_bndR (orf_zr h) fun _ h => qpi_bndR (orf_up h (by decide)) fun _ h => qpi_bnd fun _ => qpi_bnd fun _ => qpi_bndR (orf_zr h) fun _ h => qpi_bndPR (in_q5 h) fun _ _ h => qpi_bndR (orf_up h (by decide)) fun _ h => qpi_bndR (orf_zr h) fun _ h => qpi_bndR (orf_up h (by decide)) fun _ h => qpi_bnd fun _ => qpi_bndR (orf_zr h) fun _ h => qpi_bndR (orf_up h (by decide)) fun _ h => qpi_bnd fun _ => qpi_bndR (orf_zr h) fun _ h => qpi_chk (qpi_chk (qpi_bndP3 (R := fun (_ : MemL) (c : MemO) => ORf KI c) (in_q1 h) fun _ _ _ h => ?_))
  refine qpi_bndR (orf_up h (by decide)) fun _ h => qpi_bnd fun _ => qpi_bndR (orf_up h (by decide)) fun _ h => qpi_bnd fun _ => qpi_bndR (orf_up h (by decide)) fun _ h => qpi_chk ?_
  refine qpi_bnd fun _ => qpi_bndR (orf_zr h) fun _ h => qpi_bndPR (in_q6 h (by decide)) fun _ _ h => qpi_bndR (orf_up h (by decide)) fun _ h => qpi_chk ?_
  refine qpi_bnd fun _ => qpi_bndR (orf_zr h) fun _ h => qpi_bndPR (in_q6 h (by decide)) fun _ _ h => qpi_bndR (orf_up h (by decide)) fun _ h => qpi_chk ?_
  refine qpi_bnd fun _ => qpi_bndR (orf_zr h) fun _ h => qpi_bndPR (in_q6 h (by decide)) fun _ _ h => qpi_bndR (orf_up h (by decide)) fun _ h => qpi_chk ?_
  refine qpi_bnd fun _ => qpi_bndR (orf_zr h) fun _ h => qpi_bndPR (in_q6 h (by decide)) fun _ _ h => qpi_bndR (orf_up h (by decide)) fun _ h => qpi_chk ?_
  exact in_qI _ _ _ _ _ h
noncomputable def i11 : Option ((Nat → Nat) × Mem × MemL × MemO) := f_X11_init 2000 5 (zr 0 (fun _ _ => 0) 100) (fun _ _ => 0) (zr none (fun _ _ => none) 100)
noncomputable def i12 : Option (Mem × MemO) := f_X12_init (zr 0 (fun _ _ => 0) 0) (zr none (fun _ _ => none) 0)
theorem i11_s : i11.isSome = true := by decide +kernel
theorem i12_s : i12.isSome = true := by decide +kernel
theorem i11_a1 : (i11.any fun (v : (Nat → Nat) × Mem × MemL × MemO) => decide (v.2.1 100 4 = (0 : Int32))) = true := by decide +kernel
theorem i11_a2 : (i11.any fun (v : (Nat → Nat) × Mem × MemL × MemO) => (List.range 48).all fun j => decide (v.2.1 102 j = (3 : Int32))) = true := by decide +kernel
theorem i11_a2b : (i11.any fun (v : (Nat → Nat) × Mem × MemL × MemO) => (List.range 48).all fun j => decide (v.2.1 103 j = (0 : Int32))) = true := by decide +kernel
theorem i11_a2c : (i11.any fun (v : (Nat → Nat) × Mem × MemL × MemO) => (List.range 48).all fun j => decide (v.2.1 104 j = (0 : Int32))) = true := by decide +kernel
theorem i11_a3 : (i11.any fun (v : (Nat → Nat) × Mem × MemL × MemO) => (List.range 4).all fun j => decide (v.2.1 105 j = (0 : Int32))) = true := by decide +kernel
theorem i11_a4 : (i11.any fun (v : (Nat → Nat) × Mem × MemL × MemO) => decide (v.2.1 101 5 = (24 : Int32))) = true := by decide +kernel
theorem i11_a5 : (i11.any fun (v : (Nat → Nat) × Mem × MemL × MemO) => decide (v.2.1 101 6 = (0 : Int32))) = true := by decide +kernel
theorem i11_a6 : (i11.any fun (v : (Nat → Nat) × Mem × MemL × MemO) => decide (v.2.1 101 7 = (0 : Int32))) = true := by decide +kernel
theorem i11_a7 : (i11.any fun (v : (Nat → Nat) × Mem × MemL × MemO) => decide (v.2.1 100 2 = (-1 : Int32))) = true := by decide +kernel
theorem i11_a8 : (i11.any fun (v : (Nat → Nat) × Mem × MemL × MemO) => decide (v.2.1 100 7 = (1 : Int32))) = true := by decide +kernel
theorem i11_a9 : (i11.any fun (v : (Nat → Nat) × Mem × MemL × MemO) => decide (v.2.2.2 117 0 = some 2000)) = true := by decide +kernel
theorem i11_a10 : (i11.any fun (v : (Nat → Nat) × Mem × MemL × MemO) => (List.range 5).all fun k => decide (v.2.1 2001 k = enc (tx0a k) (tx0w k))) = true := by decide +kernel
theorem i11_a11 : (i11.any fun (v : (Nat → Nat) × Mem × MemL × MemO) => (List.range 3).all fun j => decide (v.2.1 2002 j = nI (tx0e j))) = true := by decide +kernel
theorem i11_a12 : (i11.any fun (v : (Nat → Nat) × Mem × MemL × MemO) => decide (v.2.1 114 2 = (0 : Int32))) = true := by decide +kernel
theorem i11_a13 : (i11.any fun (v : (Nat → Nat) × Mem × MemL × MemO) => (List.range 4).all fun i => decide (v.2.2.2 118 i = some (120 + i))) = true := by decide +kernel
theorem i11_a14 : (i11.any fun (v : (Nat → Nat) × Mem × MemL × MemO) => (List.range 4).all fun i => decide (v.2.1 (120 + i) 1 = (-1 : Int32))) = true := by decide +kernel
theorem i12_b1 : (i12.any fun (v : Mem × MemO) => decide (v.1 0 7 = (0 : Int32))) = true := by decide +kernel
theorem i12_b2 : (i12.any fun (v : Mem × MemO) => (List.range 48).all fun j => decide (v.1 1 j = (3 : Int32))) = true := by decide +kernel
theorem i12_b2b : (i12.any fun (v : Mem × MemO) => (List.range 48).all fun j => decide (v.1 2 j = (0 : Int32))) = true := by decide +kernel
theorem i12_b2c : (i12.any fun (v : Mem × MemO) => (List.range 48).all fun j => decide (v.1 3 j = (0 : Int32))) = true := by decide +kernel
theorem i12_b3 : (i12.any fun (v : Mem × MemO) => (List.range 4).all fun j => decide (v.1 4 j = (0 : Int32))) = true := by decide +kernel
theorem i12_b4 : (i12.any fun (v : Mem × MemO) => decide (v.1 0 1 = (24 : Int32))) = true := by decide +kernel
theorem i12_b5 : (i12.any fun (v : Mem × MemO) => decide (v.1 0 2 = (0 : Int32))) = true := by decide +kernel
theorem i12_b6 : (i12.any fun (v : Mem × MemO) => decide (v.1 0 16 = (0 : Int32))) = true := by decide +kernel
theorem i12_b7 : (i12.any fun (v : Mem × MemO) => decide (v.1 0 44 = (0 : Int32))) = true := by decide +kernel
theorem i12_b8 : (i12.any fun (v : Mem × MemO) => decide (v.1 0 15 = (1 : Int32))) = true := by decide +kernel
theorem i12_b9 : (i12.any fun (v : Mem × MemO) => decide (v.1 0 14 = (0 : Int32))) = true := by decide +kernel
theorem i12_b10 : (i12.any fun (v : Mem × MemO) => (List.range 4).all fun i => decide (v.1 31 i = (-1 : Int32))) = true := by decide +kernel
theorem i12_b11 : (i12.any fun (v : Mem × MemO) => (List.range 61).all fun j => decide (v.1 16 j = lettersC.getD j 0)) = true := by decide +kernel
theorem i12_b12 : (i12.any fun (v : Mem × MemO) => (List.range 12).all fun j => decide (v.1 17 j = meantC.getD j 0)) = true := by decide +kernel
def oPr : List (Nat × Nat) := [(3, 1), (4, 2), (5, 3), (6, 4), (8, 5), (9, 6), (10, 7), (11, 8), (12, 9), (13, 10), (17, 11), (18, 12), (19, 13), (27, 14), (28, 15), (29, 16), (30, 17), (31, 18), (32, 19), (33, 20), (34, 21), (35, 22), (41, 23), (42, 24), (43, 25), (49, 26), (50, 27), (51, 28), (52, 29), (53, 30), (54, 31), (55, 32), (56, 33), (57, 34)]
theorem i12_o : (i12.any fun (v : Mem × MemO) => decide (∀ q ∈ oPr, v.2 0 q.1 = some q.2)) = true := by decide +kernel
theorem all_rg {n : Nat} {f : Nat → Bool} (h : (List.range n).all f = true) : ∀ j, j < n → f j = true := fun j hj => List.all_eq_true.mp h j (List.mem_range.mpr hj)
theorem tx0_ok : txOK tx0a tx0w tx0e := by
  refine ⟨by decide, by decide, by decide, fun k hk => ?_, by decide, by decide, by decide⟩
  have : k = 0 ∨ k = 1 ∨ k = 2 ∨ k = 3 ∨ k = 4 := by
    have : tx0e 2 = 5 := rfl
    omega
  rcases this with rfl | rfl | rfl | rfl | rfl
  · exact Or.inl ⟨rfl, 0, by decide, rfl⟩
  · exact Or.inl ⟨rfl, 8, by decide, rfl⟩
  · exact Or.inr (Or.inl ⟨rfl, 0, by decide, rfl⟩)
  · exact Or.inr (Or.inr ⟨by decide, rfl⟩)
  · exact Or.inl ⟨rfl, 1, by decide, rfl⟩
theorem ag_init : Ag_init RR := by
  obtain ⟨⟨S1, G1, L1, O1⟩, h11⟩ := Option.isSome_iff_exists.mp i11_s
  obtain ⟨⟨G1', O1'⟩, h12⟩ := Option.isSome_iff_exists.mp i12_s
  have a1 := i11_a1
  have a2 := i11_a2
  have a2b := i11_a2b
  have a2c := i11_a2c
  have a3 := i11_a3
  have a4 := i11_a4
  have a5 := i11_a5
  have a6 := i11_a6
  have a7 := i11_a7
  have a8 := i11_a8
  have a9 := i11_a9
  have a10 := i11_a10
  have a11 := i11_a11
  have a12 := i11_a12
  have a13 := i11_a13
  have a14 := i11_a14
  have b1 := i12_b1
  have b2 := i12_b2
  have b2b := i12_b2b
  have b2c := i12_b2c
  have b3 := i12_b3
  have b4 := i12_b4
  have b5 := i12_b5
  have b6 := i12_b6
  have b7 := i12_b7
  have b8 := i12_b8
  have b9 := i12_b9
  have b10 := i12_b10
  have b11 := i12_b11
  have b12 := i12_b12
  have f3 := i12_o
  rw [h11] at a1 a2 a2b a2c a3 a4 a5 a6 a7 a8 a9 a10 a11 a12 a13 a14
  rw [h12] at f3 b1 b2 b2b b2c b3 b4 b5 b6 b7 b8 b9 b10 b11 b12
  have a1 := of_decide_eq_true a1
  have a2 := fun j hj => of_decide_eq_true (all_rg a2 j hj)
  have a2b := fun j hj => of_decide_eq_true (all_rg a2b j hj)
  have a2c := fun j hj => of_decide_eq_true (all_rg a2c j hj)
  have a3 := fun j hj => of_decide_eq_true (all_rg a3 j hj)
  have a4 := of_decide_eq_true a4
  have a5 := of_decide_eq_true a5
  have a6 := of_decide_eq_true a6
  have a7 := of_decide_eq_true a7
  have a8 := of_decide_eq_true a8
  have a9 := of_decide_eq_true a9
  have a10 := fun j hj => of_decide_eq_true (all_rg a10 j hj)
  have a11 := fun j hj => of_decide_eq_true (all_rg a11 j hj)
  have a12 := of_decide_eq_true a12
  have a13 := fun j hj => of_decide_eq_true (all_rg a13 j hj)
  have a14 := fun j hj => of_decide_eq_true (all_rg a14 j hj)
  have b1 := of_decide_eq_true b1
  have b2 := fun j hj => of_decide_eq_true (all_rg b2 j hj)
  have b2b := fun j hj => of_decide_eq_true (all_rg b2b j hj)
  have b2c := fun j hj => of_decide_eq_true (all_rg b2c j hj)
  have b3 := fun j hj => of_decide_eq_true (all_rg b3 j hj)
  have b4 := of_decide_eq_true b4
  have b5 := of_decide_eq_true b5
  have b6 := of_decide_eq_true b6
  have b7 := of_decide_eq_true b7
  have b8 := of_decide_eq_true b8
  have b9 := of_decide_eq_true b9
  have b10 := fun j hj => of_decide_eq_true (all_rg b10 j hj)
  have b11 := fun j hj => of_decide_eq_true (all_rg b11 j hj)
  have b12 := fun j hj => of_decide_eq_true (all_rg b12 j hj)
  have f3 := of_decide_eq_true f3
  have f3 : OFinR O1' := ⟨f3 (3, 1) (by decide), f3 (4, 2) (by decide), f3 (5, 3) (by decide), f3 (6, 4) (by decide), f3 (8, 5) (by decide), f3 (9, 6) (by decide), f3 (10, 7) (by decide), f3 (11, 8) (by decide), f3 (12, 9) (by decide), f3 (13, 10) (by decide), f3 (17, 11) (by decide), f3 (18, 12) (by decide), f3 (19, 13) (by decide), f3 (27, 14) (by decide), f3 (28, 15) (by decide), f3 (29, 16) (by decide), f3 (30, 17) (by decide), f3 (31, 18) (by decide), f3 (32, 19) (by decide), f3 (33, 20) (by decide), f3 (34, 21) (by decide), f3 (35, 22) (by decide), f3 (41, 23) (by decide), f3 (42, 24) (by decide), f3 (43, 25) (by decide), f3 (49, 26) (by decide), f3 (50, 27) (by decide), f3 (51, 28) (by decide), f3 (52, 29) (by decide), f3 (53, 30) (by decide), f3 (54, 31) (by decide), f3 (55, 32) (by decide), f3 (56, 33) (by decide), f3 (57, 34) (by decide)⟩
  obtain ⟨hS, hO⟩ := in_all (ln := 5) (G := zr 0 (fun _ _ => 0) 100) (L := fun _ _ => 0) (O := zr none (fun _ _ => none) 100) (orf_zr (fun j i a ha => absurd ha (by simp))) _ h11
  dsimp only at hS hO
  subst hS
  refine ⟨5, G1, L1, O1, G1', O1', h11, h12, hO, f3, ⟨by decide, a1, b1, fun i hi => by omega⟩, ⟨fun j hj => ?_, fun j hj => ?_, fun j hj => ?_, fun j hj => ?_⟩, ⟨⟨a4.trans b4.symm, 24, by decide, by decide, b4⟩, ⟨a5.trans b5.symm, 0, by decide, b5⟩, a6.trans b6.symm, 0, by decide, b6⟩, Or.inl ⟨a7, b7⟩, ⟨by decide, by decide, a8, b8, fun r hr => ?_⟩, ⟨0, by decide, a12, b9, fun j hj => by omega⟩, fun i hi => ⟨a13 i hi, (a14 i hi).trans (b10 i hi).symm, Or.inl (b10 i hi)⟩, b11, b12⟩
  · exact ⟨(a2 j hj).trans (b2 j hj).symm, 3, by decide, b2 j hj⟩
  · exact ⟨(a2b j hj).trans (b2b j hj).symm, 0, by decide, b2b j hj⟩
  · exact ⟨(a2c j hj).trans (b2c j hj).symm, 0, by decide, b2c j hj⟩
  · exact ⟨(a3 j hj).trans (b3 j hj).symm, 0, by decide, b3 j hj⟩
  · have : r = 0 := by omega
    subst this
    refine ⟨a9, rfl, tx0a, tx0w, tx0e, tx0_ok, ⟨rfl, a10, a11⟩, ?_⟩
    unfold txR
    rw [if_pos rfl]
    exact ⟨rfl, rfl, rfl⟩
