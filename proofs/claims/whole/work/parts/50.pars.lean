-- the parsers side by side: what holds ahead of and behind each piece
def acR (G' : Mem) : Nat → Int32 := fun k => G' 11 (1020 + k)
theorem hts_add {ac : Nat → Int32} {M : Nat} : ∀ (n m a h : Nat), hts ac M (n + m) a h = (hts ac M n a h).bind (fun h2 => hts ac M m (a + n) h2) := by
  intro n
  induction n with
  | zero => intro m a h; rw [Nat.zero_add]; rfl
  | succ n ih =>
    intro m a h
    have e : n + 1 + m = (n + m) + 1 := by omega
    have e2 : a + (n + 1) = (a + 1) + n := by omega
    rw [e, e2]
    show (if ac a = 1 ∨ ac a = 2 then _ else _) = Option.bind (if ac a = 1 ∨ ac a = 2 then _ else _) _
    rw [ih, ih, ih]
    split
    · split <;> rfl
    · split
      · split <;> rfl
      · split <;> rfl
theorem hts_cg {ac ac2 : Nat → Int32} {M : Nat} : ∀ (n a h : Nat), (∀ k, a ≤ k → k < a + n → ac2 k = ac k) → hts ac2 M n a h = hts ac M n a h := by
  intro n
  induction n with
  | zero => intro a h _; rfl
  | succ n ih =>
    intro a h hk
    show (if ac2 a = 1 ∨ ac2 a = 2 then _ else _) = (if ac a = 1 ∨ ac a = 2 then _ else _)
    have hk' : ∀ k, a + 1 ≤ k → k < a + 1 + n → ac2 k = ac k := fun k h1 h2 => hk k (by omega) (by omega)
    rw [hk a (Nat.le_refl _) (by omega), ih _ _ hk', ih _ _ hk', ih _ _ hk']
def FrC (G G1 : Mem) : Prop := ∀ b j, ¬ (b = 114 ∧ 3 ≤ j ∧ j ≤ 7) → b ≠ 116 → G1 b j = G b j
def FrR (G G1 : Mem) : Prop := ∀ b j, ¬ (b = 0 ∧ 20 ≤ j ∧ j ≤ 26) → ¬ ((b = 11 ∨ b = 12) ∧ 1020 ≤ j) → G1 b j = G b j
def Kp (l : Nat) (G G1 : Mem) : Prop := ∀ k, k < l → G1 11 (1020 + k) = G 11 (1020 + k) ∧ G1 12 (1020 + k) = G 12 (1020 + k)
theorem FrC.tr {A B C : Mem} (h : FrC A B) (h2 : FrC B C) : FrC A C := fun b j x y => (h2 b j x y).trans (h b j x y)
theorem FrR.tr {A B C : Mem} (h : FrR A B) (h2 : FrR B C) : FrR A C := fun b j x y => (h2 b j x y).trans (h b j x y)
theorem Kp.tr {A B C : Mem} {l m : Nat} (h : Kp l A B) (hm : l ≤ m) (h2 : Kp m B C) : Kp l A C := fun k hk => ⟨(h2 k (by omega)).1.trans (h k hk).1, (h2 k (by omega)).2.trans (h k hk).2⟩
/-- no fault so far: l steps are laid, the token at p is the next, o brackets wait -/
def Ok (T : Nat → Int32) (sz l p o : Nat) (G G' : Mem) : Prop := Tp T sz G G' ∧ G' 0 21 = -1 ∧ G' 0 22 = nI o ∧ G 114 7 = nI l ∧ G' 0 20 = nI l ∧ (∀ k, k < l → G 116 k = enc (G' 11 (1020 + k)) (G' 12 (1020 + k)) ∧ okStep (G' 11 (1020 + k)) (G' 12 (1020 + k))) ∧ G 114 4 = nI p ∧ G' 0 23 = nI p ∧ (∃ r, G 114 3 = nI r ∧ G' 0 24 = nI r ∧ p ≤ r ∧ r ≤ sz ∧ (p = r → G 114 5 = 9)) ∧ tkR (G 114 5) (G 114 6) (G' 0 25) (G' 0 26)
/-- a fault at p -/
def Bad (sz l p : Nat) (G G' : Mem) : Prop := p ≤ sz ∧ G 114 4 = nI p ∧ G' 0 21 = nI p ∧ G' 0 20 = nI l ∧ ∃ c, c ≤ 160 ∧ G 114 7 = nI c
theorem adv_ok {T : Nat → Int32} {sz l p o : Nat} {G G' : Mem} (h : Ok T sz l p o G G') (hn : ¬ G 114 5 = 9) : ∃ (Gz Gz' : Mem) (p2 : Nat), f_X5_advance G = some Gz ∧ f_X12_next G' = some Gz' ∧ FrC G Gz ∧ FrR G' Gz' ∧ (∀ k, Kp k G' Gz') ∧ acR Gz' = acR G' ∧ p < p2 ∧ p2 ≤ sz ∧ Ok T sz l p2 o Gz Gz' := by
  obtain ⟨hT, a1, a2, a3, a4, a5, a6, a7, ⟨r, a8, a9, a10, a11, a12⟩, a13⟩ := h
  obtain ⟨Gz, Gz', p2, r2, b1, b2, b3, b4, b5, b6, b7, b8, b9, b10, b11, b12, b13⟩ := adv hT a11 a8 a9
  have hpr : p < r := by
    by_cases hh : p = r
    · exact absurd (a12 hh) hn
    · omega
  have k11 : ∀ k, Gz' 11 k = G' 11 k := fun k => b4 11 k (by omega)
  have k12 : ∀ k, Gz' 12 k = G' 12 k := fun k => b4 12 k (by omega)
  refine ⟨Gz, Gz', p2, b1, b2, fun b j x y => b3 b j (by omega), fun b j x y => b4 b j (by omega), fun k i _ => ⟨k11 _, k12 _⟩, funext fun k => k11 _, by omega, by omega, hT.cg (fun b j hb => b3 b j (by omega)) (fun b j hb => b4 b j (by omega)), by rw [b4 _ _ (by omega), a1], by rw [b4 _ _ (by omega), a2], by rw [b3 _ _ (by omega), a3], by rw [b4 _ _ (by omega), a4], fun k hk => ?_, b5, b6, ⟨r2, b7, b8, b10, b11, b13⟩, b12⟩
  rw [k11, k12, b3 _ _ (by omega)]
  exact a5 k hk
theorem emit_ok {T : Nat → Int32} {sz l p o : Nat} {G G' : Mem} (h : Ok T sz l p o G G') (hl : l < 160) {x1 x2 a w : Int32} (he : x1 + 64 * x2 = enc a w) (hs : okStep a w) : ∃ Gz Gz' : Mem, f_X5_emit G x1 x2 = some (Gz, 1) ∧ f_X12_addStep G' a w = some Gz' ∧ FrC G Gz ∧ FrR G' Gz' ∧ Kp l G' Gz' ∧ acR Gz' l = a ∧ Ok T sz (l + 1) p o Gz Gz' ∧ Gz 114 5 = G 114 5 := by
  obtain ⟨hT, a1, a2, a3, a4, a5, a6, a7, ⟨r, a8, a9, a10, a11, a12⟩, a13⟩ := h
  unfold f_X5_emit f_X12_addStep
  have e : (1020 : Int32) + nI l = nI (1020 + l) := by rw [show (1020 : Int32) = nI 1020 from rfl, nI_add]
  have hb : inB (nI (1020 + l)) 1190 = true := inB_n (by omega) (by decide)
  rw [a3, if_neg (show ¬ (160 : Int32) ≤ nI l from nI_ge (b := 160) hl (by decide)), chk_t (inB_n hl (by decide)), bnd_e, bnd_e, a4, e, chk_t hb, bnd_e, nI_clamp (by omega), nI_clamp (by omega), up2_o (by omega), a3, nI_1, up2_o (by omega), a4, e, chk_t hb, bnd_e, nI_clamp (by omega), bnd_e, up2_o (by omega), up2_o (by omega), a4, nI_1, he]
  refine ⟨_, _, rfl, rfl, fun b j x y => ?_, fun b j x y => ?_, fun k hk => ⟨?_, ?_⟩, ?_, ⟨?_, ?_, ?_, ?_, ?_, fun k hk => ?_, ?_, ?_, ⟨r, ?_, ?_, a10, a11, fun q => ?_⟩, ?_⟩, ?_⟩
  · rw [up2_o (by omega), up2_o (by omega)]
  · rw [up2_o (by omega), up2_o (by omega), up2_o (by omega)]
  · rw [up2_o (by omega), up2_o (by omega), up2_o (by omega)]
  · rw [up2_o (by omega), up2_o (by omega), up2_o (by omega)]
  · show up2 _ _ _ _ 11 (1020 + l) = _
    rw [up2_o (by omega), up2_o (by omega), up2_aa]
  · exact hT.cg (fun b j hb => by rw [up2_o (by omega), up2_o (by omega)]) (fun b j hb => by rw [up2_o (by omega), up2_o (by omega), up2_o (by omega)])
  · rw [up2_o (by omega), up2_o (by omega), up2_o (by omega), a1]
  · rw [up2_o (by omega), up2_o (by omega), up2_o (by omega), a2]
  · rw [up2_aa]
  · rw [up2_aa]
  · by_cases hkl : k = l
    · rw [hkl, up2_o (by omega), up2_aa, up2_o (by omega), up2_o (by omega), up2_aa, up2_o (by omega), up2_aa]
      exact ⟨rfl, hs⟩
    · rw [up2_o (by omega), up2_o (by omega), up2_o (by omega), up2_o (by omega), up2_o (by omega), up2_o (by omega), up2_o (by omega), up2_o (by omega)]
      exact a5 k (by omega)
  · rw [up2_o (by omega), up2_o (by omega), a6]
  · rw [up2_o (by omega), up2_o (by omega), up2_o (by omega), a7]
  · rw [up2_o (by omega), up2_o (by omega), a8]
  · rw [up2_o (by omega), up2_o (by omega), up2_o (by omega), a9]
  · rw [up2_o (by omega), up2_o (by omega)]; exact a12 q
  · rw [up2_o (by omega), up2_o (by omega), up2_o (by omega), up2_o (by omega), up2_o (by omega), up2_o (by omega), up2_o (by omega), up2_o (by omega), up2_o (by omega), up2_o (by omega)]
    exact a13
  · rw [up2_o (by omega), up2_o (by omega)]
theorem emit_bad11 {sz l p : Nat} {G G' : Mem} (h : Bad sz l p G G') {x1 x2 : Int32} : ∃ Gz : Mem, f_X5_emit G x1 x2 = some (Gz, 1) ∧ FrC G Gz ∧ Bad sz l p Gz G' := by
  obtain ⟨b1, b2, b3, b4, c, c1, c2⟩ := h
  unfold f_X5_emit
  rw [c2]
  by_cases h160 : 160 ≤ c
  · rw [if_pos (show (160 : Int32) ≤ nI c from nI_le (a := 160) h160 (by omega))]
    exact ⟨G, rfl, fun _ _ _ _ => rfl, b1, b2, b3, b4, c, c1, c2⟩
  · rw [if_neg (show ¬ (160 : Int32) ≤ nI c from nI_ge (b := 160) (by omega) (by decide)), chk_t (inB_n (by omega) (by decide)), bnd_e, bnd_e, up2_o (by omega), c2, nI_1]
    exact ⟨_, rfl, fun b j x y => by rw [up2_o (by omega), up2_o (by omega)], b1, by rw [up2_o (by omega), up2_o (by omega), b2], b3, b4, c + 1, by omega, up2_aa _ _ _ _⟩
theorem add_bad12 {sz l p : Nat} {G G' : Mem} (h : Bad sz l p G G') (hl : l < 160) {a w : Int32} : ∃ Gz' : Mem, f_X12_addStep G' a w = some Gz' ∧ FrR G' Gz' ∧ Bad sz (l + 1) p G Gz' := by
  obtain ⟨b1, b2, b3, b4, c, c1, c2⟩ := h
  unfold f_X12_addStep
  have e : (1020 : Int32) + nI l = nI (1020 + l) := by rw [show (1020 : Int32) = nI 1020 from rfl, nI_add]
  have hb : inB (nI (1020 + l)) 1190 = true := inB_n (by omega) (by decide)
  rw [b4, e, chk_t hb, bnd_e, nI_clamp (by omega), up2_o (by omega), b4, e, chk_t hb, bnd_e, nI_clamp (by omega), bnd_e, up2_o (by omega), up2_o (by omega), b4, nI_1]
  exact ⟨_, rfl, fun b j x y => by rw [up2_o (by omega), up2_o (by omega), up2_o (by omega)], b1, b2, by rw [up2_o (by omega), up2_o (by omega), up2_o (by omega), b3], up2_aa _ _ _ _, c, c1, c2⟩
