-- the two starts agree: what is finite by running them, the rest by their form
def QPi {ρ : Type} (P : ρ → Prop) (r : Option ρ) : Prop := ∀ v, r = some v → P v
theorem qpi_none {ρ : Type} {P : ρ → Prop} : QPi P (none : Option ρ) := fun _ h => absurd h (by simp)
theorem qpi_some {ρ : Type} {P : ρ → Prop} {v : ρ} (h : P v) : QPi P (some v) := fun w hw => by
  have : v = w := by injection hw
  rw [← this]; exact h
theorem qpi_bnd {ρ α : Type} {P : ρ → Prop} {a : α} {f : α → Option ρ} (h : ∀ a, QPi P (f a)) : QPi P (bnd a f) := h a
theorem qpi_bndR {ρ : Type} {P : ρ → Prop} {a : MemO} {f : MemO → Option ρ} (ha : ORf KI a) (h : ∀ a, ORf KI a → QPi P (f a)) : QPi P (bnd a f) := h a ha
theorem qpi_chk {ρ : Type} {P : ρ → Prop} {b : Bool} {x : Option ρ} (h : QPi P x) : QPi P (chk b x) := by
  intro v hv
  obtain ⟨-, h2⟩ := chk_i hv
  exact h v h2
theorem qpi_ite {ρ : Type} {P : ρ → Prop} {c : Prop} [Decidable c] {x y : Option ρ} (h1 : QPi P x) (h2 : QPi P y) : QPi P (if c then x else y) := by
  split
  · exact h1
  · exact h2
theorem qpi_bndO {ρ α : Type} {P : ρ → Prop} {x : Option α} {f : α → Option ρ} (h : ∀ a, QPi P (f a)) : QPi P (bndO x f) := by
  cases x with
  | none => exact qpi_none
  | some a => exact h a
theorem qpi_bndP {ρ α β : Type} {P : ρ → Prop} {x : Option (α × β)} {f : α → β → Option ρ} (h : ∀ a b, QPi P (f a b)) : QPi P (bndP x f) := by
  cases x with
  | none => exact qpi_none
  | some a => exact h a.1 a.2
theorem qpi_bndPR {ρ α : Type} {P : ρ → Prop} {x : Option (α × MemO)} {f : α → MemO → Option ρ} (hx : QPi (fun v => ORf KI v.2) x) (h : ∀ a b, ORf KI b → QPi P (f a b)) : QPi P (bndP x f) := by
  cases x with
  | none => exact qpi_none
  | some a => exact h a.1 a.2 (hx a rfl)
theorem qpi_bndP3 {ρ α β γ : Type} {P : ρ → Prop} {R : β → γ → Prop} {x : Option (α × β × γ)} {f : α → β → γ → Option ρ} (hx : QPi (fun v => R v.2.1 v.2.2) x) (h : ∀ a b c, R b c → QPi P (f a b c)) : QPi P (bndP3 x f) := by
  cases x with
  | none => exact qpi_none
  | some a => exact h a.1 a.2.1 a.2.2 (hx a rfl)
theorem orf_zr {K : List Nat} {O : MemO} {k : Nat} (h : ORf K O) : ORf K (zr none O k) := by
  intro j i a ha
  unfold zr at ha
  split at ha
  · exact absurd ha (by simp)
  · exact h j i a ha
theorem orf_up {K : List Nat} {O : MemO} {b j e : Nat} (h : ORf K O) (he : e ∈ K) : ORf K (up2 O b j (some e)) := by
  intro q i a ha
  by_cases hq : q = b ∧ i = j
  · rw [hq.1, hq.2, up2_aa] at ha
    injection ha with ha
    rw [← ha]; exact he
  · rw [up2_o (by omega)] at ha
    exact h q i a ha
theorem in_q4 {e0 : Nat} {G : Mem} {O : MemO} (h : ORf KI O) (he : e0 + 1 ∈ KI ∧ e0 + 2 ∈ KI ∧ e0 + 3 ∈ KI ∧ e0 + 4 ∈ KI ∧ e0 + 5 ∈ KI) : QPi (fun v : Mem × MemO => ORf KI v.2) (f_X4_init e0 G O) := by
  obtain ⟨h1, h2, h3, h4, h5⟩ := he
  unfold f_X4_init
  exact qpi_bnd fun _ => qpi_bndR (orf_up h h1) fun _ h => qpi_bnd fun _ => qpi_bndR (orf_up h h2) fun _ h => qpi_bnd fun _ => qpi_bndR (orf_up h h3) fun _ h => qpi_bnd fun _ => qpi_bndR (orf_up h h4) fun _ h => qpi_bnd fun _ => qpi_bndR (orf_up h h5) fun _ h => qpi_bnd fun _ => qpi_bnd fun _ => qpi_bnd fun _ => qpi_chk (qpi_bndO fun _ => qpi_some h)
theorem in_q5 {G : Mem} {O : MemO} (h : ORf KI O) : QPi (fun v : Mem × MemO => ORf KI v.2) (f_X5_init G O) := by
  unfold f_X5_init
  exact qpi_bnd fun _ => qpi_bndR (orf_up h (by decide)) fun _ h => qpi_bnd fun _ => qpi_bndR (orf_up h (by decide)) fun _ h => qpi_bnd fun _ => qpi_some h
theorem in_q6 {e0 : Nat} {G : Mem} {O : MemO} (h : ORf KI O) (he : e0 + 4 ∈ KI) : QPi (fun v : Mem × MemO => ORf KI v.2) (f_X6_init e0 G O) := by
  unfold f_X6_init
  exact qpi_bnd fun _ => qpi_bndR (orf_up h he) fun _ h => qpi_bnd fun _ => qpi_bnd fun _ => qpi_some h
theorem in_q1 {G : Mem} {L : MemL} {O : MemO} (h : ORf KI O) : QPi (fun v : Mem × MemL × MemO => (fun (_ : MemL) (c : MemO) => ORf KI c) v.2.1 v.2.2) (f_X1_init G L O) := by
  unfold f_X1_init
  exact qpi_bnd fun _ => qpi_bndR (orf_up h (by decide)) fun _ h => qpi_bnd fun _ => qpi_bndR (orf_up h (by decide)) fun _ h => qpi_bnd fun _ => qpi_bndR (orf_up h (by decide)) fun _ h => qpi_bnd fun _ => qpi_bndR (orf_up h (by decide)) fun _ h => qpi_bnd fun _ => qpi_bndR (orf_up h (by decide)) fun _ h => qpi_bnd fun _ => qpi_bndR (orf_up h (by decide)) fun _ h => qpi_bnd fun _ => qpi_bndR (orf_up h (by decide)) fun _ h => qpi_bnd fun _ => qpi_bndR (orf_up h (by decide)) fun _ h => qpi_bndR (orf_up h (by decide)) fun _ h => qpi_bndR (orf_up h (by decide)) fun _ h => qpi_some h
theorem in_q9 {G : Mem} {O : MemO} (h : ORf KI O) : QPi (fun v : Mem × MemO => ORf KI v.2) (f_X9_init 2000 G O) := by
  unfold f_X9_init
  exact qpi_bnd fun _ => qpi_bndR (orf_up h (by decide)) fun _ h => qpi_bndR (orf_up h (by decide)) fun _ h => qpi_bndR (orf_up h (by decide)) fun _ h => qpi_some h
theorem in_qC {ln : Nat} {G : Mem} {O : MemO} (h : ORf KI O) : QPi (fun v : Mem × MemO × Nat => (fun (b : MemO) (_ : Nat) => ORf KI b) v.2.1 v.2.2) (f_X5_compiled 2000 ln G O) := by
  unfold f_X5_compiled
  refine qpi_bnd fun _ => qpi_bnd fun _ => qpi_bndO fun _ => qpi_bnd fun _ => ?_
  refine qpi_bndP fun _ _ => qpi_ite (qpi_some h) (qpi_bndP fun _ _ => qpi_ite (qpi_some h) (qpi_bndP fun _ _ => qpi_ite (qpi_some h) (qpi_bnd fun _ => ?_)))
  refine qpi_bndP fun _ _ => qpi_ite (qpi_some h) (qpi_bndP fun _ _ => qpi_ite (qpi_some h) (qpi_bndP fun _ _ => qpi_ite (qpi_some h) (qpi_bnd fun _ => ?_)))
  refine qpi_bndP fun _ _ => qpi_ite (qpi_some h) (qpi_bndP fun _ _ => qpi_ite (qpi_some h) (qpi_bndP fun _ _ => qpi_ite (qpi_some h) (qpi_bnd fun _ => ?_)))
  exact qpi_ite (qpi_bnd fun _ => qpi_bndR (orf_zr h) fun _ h => qpi_bndO fun _ => qpi_bndPR (in_q9 h) fun _ _ h => qpi_chk (qpi_some h)) (qpi_some h)
theorem in_qK {G : Mem} {O : MemO} (h : ORf KI O) : QPi (fun v : Mem × MemO => ORf KI v.2) (f_X11_keepText G O 2000) := by
  unfold f_X11_keepText
  exact qpi_ite (qpi_some h) (qpi_chk (qpi_bndR (orf_up h (by decide)) fun _ h => qpi_bnd fun _ => qpi_some h))
theorem in_qI {ln : Nat} (n : Nat) : ∀ (G : Mem) (L : MemL) (O : MemO) (x1 : Int32), ORf KI O → QPi (fun v : (Nat → Nat) × Mem × MemL × MemO => v.1 = stx S00 2000 ln ∧ ORf KI v.2.2.2) (iter (q_X11_init_143 2000 ln) n (G, L, O, x1)) := by
  induction n with
  | zero => intro G L O x1 h; exact qpi_none
  | succ n ih =>
    intro G L O x1 h
    exact qpi_ite (qpi_bndP3 (R := fun (b : MemO) (_ : Nat) => ORf KI b) (in_qC h) fun _ _ _ h => qpi_chk (qpi_bndPR (in_qK h) fun _ _ h => qpi_bndO fun _ => qpi_some ⟨rfl, h⟩)) (qpi_bndO fun _ => qpi_bndO fun _ => qpi_bnd fun _ => ih _ _ _ _ h)
