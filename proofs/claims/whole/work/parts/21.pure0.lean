-- the pure part: both sides' functions under one relation of the memories
theorem chk_t {α : Type} {b : Bool} {x : Option α} (h : b = true) : chk b x = x := by subst h; rfl
theorem bnd_e {α β : Type} (a : α) (f : α → β) : bnd a f = f a := rfl
theorem bndO_e {α β : Type} (a : α) (f : α → Option β) : bndO (some a) f = f a := rfl
theorem bndP_e {α γ β : Type} (a : α) (c : γ) (f : α → γ → Option β) : bndP (some (a, c)) f = f a c := rfl
theorem bndP3_e {α γ δ β : Type} (a : α) (c : γ) (d : δ) (f : α → γ → δ → Option β) : bndP3 (some (a, c, d)) f = f a c d := rfl
theorem inB_n {j n : Nat} (h : j < n) (hn : n < 2 ^ 31) : inB (nI j) n = true := decide_eq_true (nI_in h hn)
theorem up2_o {α : Type} {G : Nat → Nat → α} {a j b i : Nat} {v : α} (h : b ≠ a ∨ i ≠ j) : up2 G a j v b i = G b i := by
  by_cases hb : b = a
  · subst hb
    rw [up2_an G b v (h.resolve_left (fun z => z rfl))]
  · rw [up2_n G j v hb]
theorem iter_R {α β : Type} (b : (α → Option β) → α → Option β) (I : Nat → α → Prop) (R : Option β → Prop) (n : Nat) (hs : ∀ k a, k < n → I k a → ∀ rec, (∃ a', I (k + 1) a' ∧ b rec a = rec a') ∨ R (b rec a)) (he : ∀ a, I n a → ∀ rec, R (b rec a)) : ∀ f k a, k ≤ n → n - k < f → I k a → R (iter b f a) := by
  intro f
  induction f with
  | zero => intro k a _ h; omega
  | succ f ih =>
    intro k a hk hf hI
    show R (b (iter b f) a)
    by_cases hkn : k = n
    · subst hkn
      exact he a hI _
    · rcases hs k a (by omega) hI (iter b f) with ⟨a', h1, h2⟩ | h
      · rw [h2]
        exact ih (k + 1) a' (by omega) (by omega) h1
      · exact h
theorem iter_fuel {α β : Type} (b : (α → Option β) → α → Option β) (I : Nat → α → Prop) (R : Option β → Prop) (n : Nat) (hn : n < 100000) (hs : ∀ k a, k < n → I k a → ∀ rec, (∃ a', I (k + 1) a' ∧ b rec a = rec a') ∨ R (b rec a)) (he : ∀ a, I n a → ∀ rec, R (b rec a)) {a : α} (h : I 0 a) : R (iter b fuel a) := iter_R b I R n hs he fuel 0 a (Nat.zero_le _) (by unfold fuel; omega) h
theorem nI_m1 (n : Nat) (hn : n < 2 ^ 31) : (nI n - 1 : Int32).toInt = (n : Int) - 1 := by
  cases n with
  | zero => decide
  | succ n => rw [nI_pred, nI_toInt (by omega)]; omega
theorem rng (x N M : Int32) (n : Nat) (hn : n < 2 ^ 31) (hN : N = nI n) (hM : M = N - 1) : (∃ j, j < n ∧ x = nI j ∧ f_X11_outside x N = 0 ∧ f_X12_in x 0 M = 1) ∨ (f_X11_outside x N = 1 ∧ f_X12_in x 0 M = 0 ∧ ∀ j, j < n → x ≠ nI j) := by
  subst hN hM
  unfold f_X11_outside f_X12_in
  by_cases h0 : x < 0
  · right
    rw [if_pos h0, if_pos h0]
    exact ⟨rfl, rfl, fun j hj e => nI_pos (n := j) (by omega) (by rw [← e]; exact h0)⟩
  · rw [if_neg h0, if_neg h0]
    obtain ⟨j, hj, rfl⟩ := nI_of h0
    have key : (nI n - 1 < nI j) ↔ n ≤ j := by
      rw [Int32.lt_iff_toInt_lt, nI_m1 n hn, nI_toInt hj]
      omega
    by_cases h : j < n
    · left
      rw [if_pos (nI_lt h hn), if_neg (fun z => by have := key.mp z; omega)]
      exact ⟨j, h, rfl, rfl, rfl⟩
    · right
      rw [if_neg (nI_nlt (by omega) hj), if_pos (key.mpr (by omega))]
      exact ⟨rfl, rfl, fun i hi e => by have := (nI_eq hj (by omega)).mp e; omega⟩
/-- a number of a range -/
def rgB (x : Int32) (n : Nat) : Prop := ∃ k, k < n ∧ x = nI k
def rgC (x : Int32) (a b : Nat) : Prop := ∃ k, a ≤ k ∧ k ≤ b ∧ x = nI k
def enc (a w : Int32) : Int32 := if a = 1 then 7 + 64 * w else if a = 2 then 6 + 64 * w else if a = 3 then 5 else if a = 4 then 8 else if a = 5 then 3 else if a = 6 then 4 else a
/-- the height of the pile behind a piece of a text; none if it falls below what is wanted or passes M -/
def hts (ac : Nat → Int32) (M : Nat) : Nat → Nat → Nat → Option Nat
  | 0, _, h => some h
  | n + 1, a, h => if ac a = 1 ∨ ac a = 2 then (if h < M then hts ac M n (a + 1) (h + 1) else none) else if ac a = 3 ∨ ac a = 4 then (if 1 ≤ h then hts ac M n (a + 1) h else none) else (if 2 ≤ h then hts ac M n (a + 1) (h - 1) else none)
def okStep (a w : Int32) : Prop := (a = 1 ∧ rgB w 10000) ∨ (a = 2 ∧ rgB w 6) ∨ ((a = 3 ∨ a = 4 ∨ a = 5 ∨ a = 6 ∨ a = 60 ∨ a = 61 ∨ a = 43 ∨ a = 45 ∨ a = 42) ∧ w = 0)
/-- a text: steps, and where its three parts end -/
def txOK (ac wi : Nat → Int32) (en : Nat → Nat) : Prop := en 0 ≤ en 1 ∧ en 1 ≤ en 2 ∧ en 2 ≤ 160 ∧ (∀ k, k < en 2 → okStep (ac k) (wi k)) ∧ hts ac 32 (en 0) 0 0 = some 1 ∧ hts ac 32 (en 1 - en 0) (en 0) 0 = some 1 ∧ hts ac 32 (en 2 - en 1) (en 1) 0 = some 1
def tx0a : Nat → Int32 := fun k => if k = 3 then 60 else if k = 2 then 2 else 1
def tx0w : Nat → Int32 := fun k => if k = 1 then 8 else if k = 4 then 1 else 0
def tx0e : Nat → Nat := fun k => if k = 0 then 1 else if k = 1 then 4 else 5
def txR (r : Nat) (G' : Mem) (ac wi : Nat → Int32) (en : Nat → Nat) : Prop := if r = 0 then ac = tx0a ∧ wi = tx0w ∧ en = tx0e else (∀ k, k < en 2 → G' 11 (170 * r + k) = ac k ∧ G' 12 (170 * r + k) = wi k) ∧ ∀ j, j < 3 → G' 13 (3 * r + j) = nI (en j)
def txC (r : Nat) (G : Mem) (S : Nat → Nat) (ac wi : Nat → Int32) (en : Nat → Nat) : Prop := S (2000 + 4 * r + 1) = en 2 ∧ (∀ k, k < en 2 → G (2000 + 4 * r + 1) k = enc (ac k) (wi k)) ∧ ∀ j, j < 3 → G (2000 + 4 * r + 2) j = nI (en j)
def lettersC : List Int32 := [104, 101, 108, 100, 32, 108, 111, 117, 100, 32, 115, 116, 101, 112, 32, 115, 105, 110, 103, 105, 110, 103, 32, 98, 101, 115, 105, 100, 101, 32, 116, 105, 114, 101, 100, 32, 109, 117, 115, 116, 32, 109, 97, 121, 32, 116, 104, 105, 110, 32, 111, 114, 32, 97, 110, 100, 32, 110, 111, 116, 32]
def meantC : List Int32 := [0, 1, 2, 3, 4, 5, 10, 11, 12, 13, 14, 15]
def R_sg (z : Nat) (G : Mem) (O : MemO) (S : Nat → Nat) (G' : Mem) : Prop := z ≤ 10 ∧ G 100 4 = nI z ∧ G' 0 7 = nI z ∧ ∀ i, i < z → O 113 i = some (1000 + i) ∧ S (1000 + i) = kcl (G' 5 i) ∧ G (1000 + i) 0 = G' 7 i ∧ G (1000 + i) 1 = G' 9 i ∧ G (1000 + i) 2 = G' 8 i ∧ rgB (G' 5 i) 6 ∧ rgC (G' 7 i) 2 40 ∧ rgC (G' 9 i) 1 9 ∧ rgB (G' 8 i) 10 ∧ G 106 i = G' 6 i ∧ rgB (G' 6 i) 4
def R_pc (G G' : Mem) : Prop := (∀ j, j < 48 → G 102 j = G' 1 j ∧ rgB (G' 1 j) 10) ∧ (∀ j, j < 48 → G 103 j = G' 2 j ∧ rgB (G' 2 j) 2) ∧ (∀ j, j < 48 → G 104 j = G' 3 j ∧ rgB (G' 3 j) 2) ∧ ∀ j, j < 4 → G 105 j = G' 4 j ∧ rgB (G' 4 j) 10
def R_la (t : Nat) (G G' : Mem) : Prop := (G 101 5 = G' 0 1 ∧ rgC (G' 0 1) 1 48) ∧ (G 101 6 = G' 0 2 ∧ rgB (G' 0 2) 6) ∧ G 101 7 = G' 0 16 ∧ rgB (G' 0 16) t
def R_ke (z t : Nat) (G G' : Mem) : Prop := (G 100 2 = -1 ∧ G' 0 44 = 0) ∨ ∃ ks, ks ≤ z ∧ G 100 2 = nI ks ∧ G' 0 44 = 1 ∧ G' 0 48 = nI ks ∧ ((∀ j, j < 48 → G 108 j = G' 26 j ∧ rgB (G' 26 j) 10) ∧ (∀ j, j < 48 → G 109 j = G' 27 j ∧ rgB (G' 27 j) 2) ∧ (∀ j, j < 48 → G 110 j = G' 28 j ∧ rgB (G' 28 j) 2) ∧ ∀ j, j < 4 → G 111 j = G' 29 j ∧ rgB (G' 29 j) 10) ∧ (∀ i, i < ks → G 112 i = G' 30 i ∧ rgB (G' 30 i) 4) ∧ (G 107 5 = G' 0 45 ∧ rgC (G' 0 45) 1 48) ∧ (G 107 6 = G' 0 46 ∧ rgB (G' 0 46) 6) ∧ G 107 7 = G' 0 47 ∧ rgB (G' 0 47) t
def R_tx (t : Nat) (G : Mem) (O : MemO) (S : Nat → Nat) (G' : Mem) : Prop := 1 ≤ t ∧ t ≤ 6 ∧ G 100 7 = nI t ∧ G' 0 15 = nI t ∧ ∀ r, r < t → O 117 r = some (2000 + 4 * r) ∧ S (2000 + 4 * r) = 9 ∧ ∃ ac wi en, txOK ac wi en ∧ txC r G S ac wi en ∧ txR r G' ac wi en
def R_tp (G G' : Mem) : Prop := ∃ sz, sz ≤ 160 ∧ G 114 2 = nI sz ∧ G' 0 14 = nI sz ∧ ∀ j, j < sz → G 115 j = G' 10 j &&& 255 ∧ (G' 10 j).toInt8.toInt32 = G' 10 j
def R_sh (G : Mem) (O : MemO) (G' : Mem) : Prop := ∀ i, i < 4 → O 118 i = some (120 + i) ∧ G (120 + i) 1 = G' 31 i ∧ (G' 31 i = -1 ∨ (rgB (G' 31 i) 3 ∧ ∃ ln, ln ≤ 40 ∧ G (120 + i) 2 = nI ln ∧ G' 32 i = nI ln ∧ ∀ j, j < ln → G (124 + i) j = G' 33 (40 * i + j)))
def R_co (G' : Mem) : Prop := (∀ j, j < 61 → G' 16 j = lettersC.getD j 0) ∧ ∀ j, j < 12 → G' 17 j = meantC.getD j 0
def RR (z t : Nat) (G : Mem) (L : MemL) (O : MemO) (S : Nat → Nat) (G' : Mem) : Prop := R_sg z G O S G' ∧ R_pc G G' ∧ R_la t G G' ∧ R_ke z t G G' ∧ R_tx t G O S G' ∧ R_tp G G' ∧ R_sh G O G' ∧ R_co G'
theorem RR_z : ∀ z t G L O S G', RR z t G L O S G' → z ≤ 10 := fun z t G L O S G' h => h.1.1
-- what each part reads
theorem R_sg.cg {z : Nat} {G G1 : Mem} {O : MemO} {S : Nat → Nat} {G' G1' : Mem} (h : R_sg z G O S G') (h1 : ∀ b j, (b = 100 ∧ j = 4) ∨ b = 106 ∨ (1000 ≤ b ∧ b < 2000) → G1 b j = G b j) (h2 : ∀ b j, (b = 0 ∧ j = 7) ∨ (5 ≤ b ∧ b ≤ 9) → G1' b j = G' b j) : R_sg z G1 O S G1' := by
  obtain ⟨hz, a1, a2, a3⟩ := h
  refine ⟨hz, by rw [h1 _ _ (Or.inl ⟨rfl, rfl⟩)]; exact a1, by rw [h2 _ _ (Or.inl ⟨rfl, rfl⟩)]; exact a2, fun i hi => ?_⟩
  have := a3 i hi
  rw [h1 (1000 + i) 0 (Or.inr (Or.inr (by omega))), h1 (1000 + i) 1 (Or.inr (Or.inr (by omega))), h1 (1000 + i) 2 (Or.inr (Or.inr (by omega))), h1 106 i (Or.inr (Or.inl rfl)), h2 5 i (Or.inr (by omega)), h2 6 i (Or.inr (by omega)), h2 7 i (Or.inr (by omega)), h2 8 i (Or.inr (by omega)), h2 9 i (Or.inr (by omega))]
  exact this
theorem R_pc.cg {G G1 G' G1' : Mem} (h : R_pc G G') (h1 : ∀ b j, 102 ≤ b ∧ b ≤ 105 → G1 b j = G b j) (h2 : ∀ b j, 1 ≤ b ∧ b ≤ 4 → G1' b j = G' b j) : R_pc G1 G1' := by
  obtain ⟨a, b, c, d⟩ := h
  refine ⟨fun j hj => ?_, fun j hj => ?_, fun j hj => ?_, fun j hj => ?_⟩
  · rw [h1 _ _ (by omega), h2 _ _ (by omega)]; exact a j hj
  · rw [h1 _ _ (by omega), h2 _ _ (by omega)]; exact b j hj
  · rw [h1 _ _ (by omega), h2 _ _ (by omega)]; exact c j hj
  · rw [h1 _ _ (by omega), h2 _ _ (by omega)]; exact d j hj
theorem R_la.cg {t : Nat} {G G1 G' G1' : Mem} (h : R_la t G G') (h1 : ∀ b j, b = 101 ∧ 5 ≤ j ∧ j ≤ 7 → G1 b j = G b j) (h2 : ∀ b j, b = 0 ∧ (j = 1 ∨ j = 2 ∨ j = 16) → G1' b j = G' b j) : R_la t G1 G1' := by
  unfold R_la at h ⊢
  rw [h1 101 5 (by omega), h1 101 6 (by omega), h1 101 7 (by omega), h2 0 1 (by omega), h2 0 2 (by omega), h2 0 16 (by omega)]
  exact h
theorem R_ke.cg {z t : Nat} {G G1 G' G1' : Mem} (h : R_ke z t G G') (h1 : ∀ b j, (b = 100 ∧ j = 2) ∨ (b = 107 ∧ 5 ≤ j ∧ j ≤ 7) ∨ (108 ≤ b ∧ b ≤ 112) → G1 b j = G b j) (h2 : ∀ b j, (b = 0 ∧ 44 ≤ j ∧ j ≤ 48) ∨ (26 ≤ b ∧ b ≤ 30) → G1' b j = G' b j) : R_ke z t G1 G1' := by
  rcases h with h | ⟨ks, q1, q2, q3, q4, ⟨a, b, c, d⟩, q6, q7, q8, q9, q10⟩
  · left
    rw [h1 _ _ (by omega), h2 _ _ (by omega)]; exact h
  · right
    refine ⟨ks, q1, by rw [h1 _ _ (by omega)]; exact q2, by rw [h2 _ _ (by omega)]; exact q3, by rw [h2 _ _ (by omega)]; exact q4, ⟨fun j hj => ?_, fun j hj => ?_, fun j hj => ?_, fun j hj => ?_⟩, fun j hj => ?_, ?_, ?_, ?_, ?_⟩
    · rw [h1 _ _ (by omega), h2 _ _ (by omega)]; exact a j hj
    · rw [h1 _ _ (by omega), h2 _ _ (by omega)]; exact b j hj
    · rw [h1 _ _ (by omega), h2 _ _ (by omega)]; exact c j hj
    · rw [h1 _ _ (by omega), h2 _ _ (by omega)]; exact d j hj
    · rw [h1 _ _ (by omega), h2 _ _ (by omega)]; exact q6 j hj
    · rw [h1 _ _ (by omega), h2 _ _ (by omega)]; exact q7
    · rw [h1 _ _ (by omega), h2 _ _ (by omega)]; exact q8
    · rw [h1 _ _ (by omega), h2 _ _ (by omega)]; exact q9
    · rw [h2 _ _ (by omega)]; exact q10
theorem R_tx.cg {t : Nat} {G G1 : Mem} {O : MemO} {S : Nat → Nat} {G' G1' : Mem} (h : R_tx t G O S G') (h1 : ∀ b j, (b = 100 ∧ j = 7) ∨ (2000 ≤ b ∧ (b % 4 = 1 ∨ b % 4 = 2)) → G1 b j = G b j) (h2 : ∀ b j, (b = 0 ∧ j = 15) ∨ (11 ≤ b ∧ b ≤ 13) → G1' b j = G' b j) : R_tx t G1 O S G1' := by
  obtain ⟨q1, q2, q3, q4, q5⟩ := h
  refine ⟨q1, q2, by rw [h1 _ _ (by omega)]; exact q3, by rw [h2 _ _ (by omega)]; exact q4, fun r hr => ?_⟩
  obtain ⟨p1, p2, ac, wi, en, p3, ⟨c1, c2, c3⟩, p5⟩ := q5 r hr
  refine ⟨p1, p2, ac, wi, en, p3, ⟨c1, fun k hk => by rw [h1 _ _ (by omega)]; exact c2 k hk, fun k hk => by rw [h1 _ _ (by omega)]; exact c3 k hk⟩, ?_⟩
  unfold txR at p5 ⊢
  split at p5
  · rename_i h0; rw [if_pos h0]; exact p5
  · rename_i h0; rw [if_neg h0]
    exact ⟨fun k hk => by rw [h2 _ _ (by omega), h2 _ _ (by omega)]; exact p5.1 k hk, fun k hk => by rw [h2 _ _ (by omega)]; exact p5.2 k hk⟩
theorem R_tp.cg {G G1 G' G1' : Mem} (h : R_tp G G') (h1 : ∀ b j, (b = 114 ∧ j = 2) ∨ b = 115 → G1 b j = G b j) (h2 : ∀ b j, (b = 0 ∧ j = 14) ∨ b = 10 → G1' b j = G' b j) : R_tp G1 G1' := by
  obtain ⟨sz, a, b, c, d⟩ := h
  refine ⟨sz, a, by rw [h1 _ _ (by omega)]; exact b, by rw [h2 _ _ (by omega)]; exact c, fun j hj => ?_⟩
  rw [h1 _ _ (by omega), h2 _ _ (by omega)]
  exact d j hj
theorem R_sh.cg {G G1 : Mem} {O : MemO} {G' G1' : Mem} (h : R_sh G O G') (h1 : ∀ b j, 120 ≤ b ∧ b < 128 → G1 b j = G b j) (h2 : ∀ b j, 31 ≤ b ∧ b ≤ 33 → G1' b j = G' b j) : R_sh G1 O G1' := by
  intro i hi
  obtain ⟨a, b, c⟩ := h i hi
  refine ⟨a, by rw [h1 _ _ (by omega), h2 _ _ (by omega)]; exact b, ?_⟩
  rw [h2 31 i (by omega)]
  rcases c with c | ⟨c, ln, d1, d2, d3, d4⟩
  · exact Or.inl c
  · exact Or.inr ⟨c, ln, d1, by rw [h1 _ _ (by omega)]; exact d2, by rw [h2 _ _ (by omega)]; exact d3, fun j hj => by rw [h1 _ _ (by omega), h2 _ _ (by omega)]; exact d4 j hj⟩
theorem R_co.cg {G' G1' : Mem} (h : R_co G') (h2 : ∀ b j, 16 ≤ b ∧ b ≤ 17 → G1' b j = G' b j) : R_co G1' := ⟨fun j hj => by rw [h2 _ _ (by omega)]; exact h.1 j hj, fun j hj => by rw [h2 _ _ (by omega)]; exact h.2 j hj⟩
