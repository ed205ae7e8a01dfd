-- the next token, on both sides
theorem sgn_chain {α : Type} {x : Int32} {A B : α} : (if x = 40 then A else if x = 41 then A else if x = 59 then A else if x = 43 then A else if x = 45 then A else if x = 42 then A else if x = 60 then A else if x = 61 then A else B) = if sgn8 x = true then A else B := by
  unfold sgn8
  by_cases a1 : x = 40
  · simp [a1]
  by_cases a2 : x = 41
  · simp [a2]
  by_cases a3 : x = 59
  · simp [a3]
  by_cases a4 : x = 43
  · simp [a4]
  by_cases a5 : x = 45
  · simp [a5]
  by_cases a6 : x = 42
  · simp [a6]
  by_cases a7 : x = 60
  · simp [a7]
  by_cases a8 : x = 61
  · simp [a8]
  simp [a1, a2, a3, a4, a5, a6, a7, a8]
theorem adv {T : Nat → Int32} {sz q : Nat} {G G' : Mem} (h : Tp T sz G G') (hq : q ≤ sz) (h3 : G 114 3 = nI q) (h24 : G' 0 24 = nI q) : ∃ (Gz Gz' : Mem) (p r : Nat), f_X5_advance G = some Gz ∧ f_X12_next G' = some Gz' ∧ (∀ b j, ¬ (b = 114 ∧ 3 ≤ j ∧ j ≤ 6) → Gz b j = G b j) ∧ (∀ b j, ¬ (b = 0 ∧ 23 ≤ j ∧ j ≤ 26) → Gz' b j = G' b j) ∧ Gz 114 4 = nI p ∧ Gz' 0 23 = nI p ∧ Gz 114 3 = nI r ∧ Gz' 0 24 = nI r ∧ q ≤ p ∧ p ≤ r ∧ r ≤ sz ∧ tkR (Gz 114 5) (Gz 114 6) (Gz' 0 25) (Gz' 0 26) ∧ (p = r → Gz 114 5 = 9) := by
  obtain ⟨p, p1, p2, p3, p4⟩ := runTo (fun j => blk (T j)) sz (sz - q) q (by omega)
  rw [skip11 h p1 p2 p3 p4 h3, skip12 h p1 p2 p3 p4 h24]
  have h160 := h.1
  -- the class's memory ahead of the token
  obtain ⟨C, hC⟩ : ∃ x, x = up2 (up2 (up2 G 114 4 (nI p)) 114 3 (nI p)) 114 5 9 := ⟨_, rfl⟩
  have hCf : ∀ b j, ¬ (b = 114 ∧ 3 ≤ j ∧ j ≤ 5) → C b j = G b j := fun b j hb => by rw [hC, up2_o (by omega), up2_o (by omega), up2_o (by omega)]
  have hC4 : C 114 4 = nI p := by rw [hC, up2_o (by omega), up2_o (by omega), up2_aa]
  have hC3 : C 114 3 = nI p := by rw [hC, up2_o (by omega), up2_aa]
  have hC5 : C 114 5 = 9 := by rw [hC, up2_aa]
  obtain ⟨R, hR⟩ : ∃ x, x = up2 (up2 G' 0 23 (nI p)) 0 24 (nI p) := ⟨_, rfl⟩
  have hRf : ∀ b j, ¬ (b = 0 ∧ 23 ≤ j ∧ j ≤ 24) → R b j = G' b j := fun b j hb => by rw [hR, up2_o (by omega), up2_o (by omega)]
  have hR3 : R 0 23 = nI p := by rw [hR, up2_o (by omega), up2_aa]
  have hR4 : R 0 24 = nI p := by rw [hR, up2_aa]
  have hT : Tp T sz C R := h.cg (fun b j hb => hCf b j (by omega)) (fun b j hb => hRf b j (by omega))
  obtain ⟨-, a1, a2, a3, -, -⟩ := id hT
  have eR : up2 (up2 G' 0 23 (nI p)) 0 24 ((up2 G' 0 23 (nI p)) 0 23) = R := by rw [up2_aa, ← hR]
  unfold j_X5_advance_53 j_X12_next_60
  rw [bnd_e, bnd_e, bnd_e, ← hC, bnd_e, eR, a1, a2, hR3]
  by_cases hps : p < sz
  rotate_left
  · have hp : p = sz := by omega
    rw [if_pos (nI_le (by omega) (by omega)), if_neg (nI_nlt (by omega) (by omega)), bnd_e, bnd_e]
    refine ⟨C, _, p, p, rfl, rfl, fun b j hb => hCf b j (by omega), fun b j hb => by rw [up2_o (by omega), up2_o (by omega), hRf b j (by omega)], hC4, by rw [up2_o (by omega), up2_aa, hp], hC3, by rw [up2_o (by omega), up2_o (by omega), hR4], p1, Nat.le_refl _, p2, ?_, fun _ => hC5⟩
    exact Or.inr (Or.inr (Or.inr (Or.inr (Or.inl ⟨hC5, up2_aa _ _ _ _⟩))))
  obtain ⟨t1, t2, t3⟩ := a3 p hps
  obtain ⟨-, -, c3, c4, c5, ⟨v, c6, c7⟩, -⟩ := ch_s t3
  have hib : inB (nI p) 160 = true := inB_n (by omega) (by decide)
  rw [if_neg (nI_ge hps (by omega)), if_pos (nI_lt hps (by omega)), chk_t hib, chk_t hib, chk_t hib, bnd_e, nI_clamp (by omega), t1, t2]
  by_cases hl : let8 (T p) = true
  · -- a word
    obtain ⟨d1, d2⟩ := c3.mp hl
    have hl' : ¬ f_X12_isLetter (T p) = 0 := of_decide_eq_true hl
    obtain ⟨r, r1, r2, r3, r4⟩ := runTo (fun j => let8 (T j)) sz (sz - p) p (by omega)
    have hpr : p < r := by
      by_cases hh : p < r
      · exact hh
      · have : r = p := by omega
        have := r4 (by omega)
        rw [‹r = p›] at this
        exact absurd (hl.symm.trans this) (by decide)
    obtain ⟨Gz, g1, g2, g3, g4⟩ := word11 hT r1 r2 r3 r4 hC4 hC3
    obtain ⟨Gz', k1, k2, k3, k4⟩ := word12 hT r1 r2 r3 r4 hR3 hR4
    rw [if_neg d1, if_neg d2, if_neg hl', g1, bndO_e, k1]
    refine ⟨Gz, Gz', p, r, rfl, rfl, fun b j hb => by rw [g2 b j (by omega), hCf b j (by omega)], fun b j hb => by rw [k2 b j (by omega), hRf b j (by omega)], by rw [g2 _ _ (by omega), hC4], by rw [k2 _ _ (by omega), hR3], g3, k3, p1, r1, r2, ?_, fun q => by omega⟩
    rcases g4 with ⟨g5, g6⟩ | ⟨i, i1, i2, i3, i4⟩
    · rcases k4 with ⟨a, a1, a2, a3, a4⟩ | ⟨k5, k6⟩
      · exact absurd a2 (g5 _ (by omega))
      · exact Or.inr (Or.inr (Or.inr (Or.inr (Or.inr ⟨g6, k6⟩))))
    · rcases k4 with ⟨a, b1, b2, b3, b4⟩ | ⟨k5, k6⟩
      · have hia : i = (a + 6) % 12 := wd_inj i i1 _ (by omega) (i2.trans b2.symm)
        rw [i3, i4, b3, b4]
        by_cases h6 : i < 6
        · left
          refine ⟨i, h6, by rw [if_neg (show ¬ (6 : Int32) < nI i from nI_nlt (a := 6) (by omega) (by omega))], rfl, ?_⟩
          have ha : a = i + 6 := by omega
          rw [ha]
          exact (show ∀ i, i < 6 → meantC.getD (i + 6) 0 = nI (10 + i) by decide +kernel) i h6
        · right; left
          have ha : a + 6 = i := by omega
          refine ⟨a, by omega, ?_, by rw [← ha, show (6 : Int32) = nI 6 from rfl, subI (by omega), show a + 6 - 6 = a by omega], rfl, (show ∀ a, a < 6 → meantC.getD a 0 = nI a by decide +kernel) a (by omega)⟩
          by_cases h7 : 6 < i
          · rw [if_pos (show (6 : Int32) < nI i from nI_lt (a := 6) h7 (by omega))]
          · rw [if_neg (show ¬ (6 : Int32) < nI i from nI_nlt (a := 6) (by omega) (by omega)), show i = 6 by omega]
            rfl
      · refine absurd ?_ (k5 ((i + 6) % 12) (by omega))
        rw [show ((i + 6) % 12 + 6) % 12 = i by omega]
        exact i2
  have hl' : f_X12_isLetter (T p) = 0 := Decidable.not_not.mp (fun q => hl (decide_eq_true q))
  have hnl : ∀ A B : Option Mem, (if T p &&& 255 < 97 then A else if 122 < T p &&& 255 then A else B) = A := by
    intro A B
    by_cases d1 : T p &&& 255 < 97
    · rw [if_pos d1]
    · by_cases d2 : 122 < T p &&& 255
      · rw [if_neg d1, if_pos d2]
      · exact absurd (c3.mpr ⟨d1, d2⟩) hl
  rw [hnl, if_pos hl']
  unfold j_X5_advance_106
  rw [chk_t hib, chk_t hib, nI_clamp (by omega), t1]
  by_cases hd : dig8 (T p) = true
  · -- a number
    obtain ⟨d1, d2⟩ := c4.mp hd
    have hd' : ¬ f_X12_isDigit (T p) = 0 := of_decide_eq_true hd
    obtain ⟨r, r1, r2, r3, r4⟩ := runTo (fun j => dig8 (T j)) sz (sz - p) p (by omega)
    have hpr : p < r := by
      by_cases hh : p < r
      · exact hh
      · have : r = p := by omega
        have := r4 (by omega)
        rw [‹r = p›] at this
        exact absurd (hd.symm.trans this) (by decide)
    obtain ⟨Gz, g1, g2, g3, g4, g5⟩ := num11 hT r1 r2 r3 r4 hC4 hC3
    obtain ⟨Gz', k1, k2, k3, k4, k5⟩ := num12 (G := C) (G' := up2 R 0 26 0) (hT.cg (fun _ _ _ => rfl) (fun b j hb => up2_o (by omega))) r1 r2 r3 r4 (by rw [up2_o (by omega)]; exact hR3) (by rw [up2_o (by omega)]; exact hR4) (up2_aa _ _ _ _)
    rw [if_neg d1, if_neg d2, if_neg hd', g1, bndO_e, bnd_e, k1]
    refine ⟨Gz, Gz', p, r, rfl, rfl, fun b j hb => by rw [g2 b j (by omega), hCf b j (by omega)], fun b j hb => by rw [k2 b j (by omega), up2_o (by omega), hRf b j (by omega)], by rw [g2 _ _ (by omega), hC4], by rw [k2 _ _ (by omega), up2_o (by omega), hR3], g3, k3, p1, r1, r2, ?_, fun q => by omega⟩
    by_cases h4 : r - p ≤ 4
    · rw [if_pos h4] at g5 k5
      obtain ⟨n, n1, n2⟩ := nvI_n (T := T) (p := p) (r - p) h4 (fun j hj => (ch_s (a3 (p + j) (by omega)).2.2).2.2.2.2.2.2 (r3 (p + j) (by omega) (by omega)))
      have hp4 : 10 ^ (r - p) ≤ 10 ^ 4 := Nat.pow_le_pow_right (by decide) h4
      exact Or.inr (Or.inr (Or.inl ⟨n, by omega, g5, g4.trans n2, k5, (k4 h4).trans n2⟩))
    · rw [if_neg h4] at g5 k5
      exact Or.inr (Or.inr (Or.inr (Or.inr (Or.inr ⟨g5, k5⟩))))
  have hd' : f_X12_isDigit (T p) = 0 := Decidable.not_not.mp (fun q => hd (decide_eq_true q))
  have hnd : ∀ A B : Option Mem, (if T p &&& 255 < 48 then A else if 57 < T p &&& 255 then A else B) = A := by
    intro A B
    by_cases d1 : T p &&& 255 < 48
    · rw [if_pos d1]
    · by_cases d2 : 57 < T p &&& 255
      · rw [if_neg d1, if_pos d2]
      · exact absurd (c4.mpr ⟨d1, d2⟩) hd
  rw [hnd, if_pos hd']
  unfold f_X5_readSign
  rw [hC4, chk_t hib, nI_clamp (by omega), t1, c6, bndO_e]
  by_cases hs : sgn8 (T p) = true
  · rw [if_neg (c7.mpr hs), chk_t hib, bnd_e, bnd_e, bndO_e, bnd_e, bnd_e, hR4, nI_1, bnd_e, bnd_e, sgn_chain, if_pos hs, c5 (Or.inr (Or.inr hs)), up2_o (by omega), hC4, nI_1]
    refine ⟨_, _, p, p + 1, rfl, rfl, fun b j hb => by rw [up2_o (by omega), up2_o (by omega), hCf b j (by omega)], fun b j hb => by rw [up2_o (by omega), up2_o (by omega), up2_o (by omega), hRf b j (by omega)], by rw [up2_o (by omega), up2_o (by omega), hC4], by rw [up2_o (by omega), up2_o (by omega), up2_o (by omega), hR3], up2_aa _ _ _ _, by rw [up2_o (by omega), up2_o (by omega), up2_aa], p1, by omega, by omega, ?_, fun q => by omega⟩
    refine Or.inr (Or.inr (Or.inr (Or.inl ⟨?_, up2_aa _ _ _ _, ?_⟩)))
    · rw [up2_o (by omega), up2_aa]; exact hs
    · rw [up2_o (by omega), up2_aa, up2_o (by omega), up2_aa]
  · have hv : v < 0 := Decidable.not_not.mp (fun q => hs (c7.mp q))
    rw [if_pos hv, bnd_e, bnd_e, bndO_e, bnd_e, bnd_e, hR4, nI_1, bnd_e, bnd_e, sgn_chain, if_neg hs, up2_o (by omega), hC4, nI_1]
    refine ⟨_, _, p, p + 1, rfl, rfl, fun b j hb => by rw [up2_o (by omega), up2_o (by omega), hCf b j (by omega)], fun b j hb => by rw [up2_o (by omega), up2_o (by omega), up2_o (by omega), hRf b j (by omega)], by rw [up2_o (by omega), up2_o (by omega), hC4], by rw [up2_o (by omega), up2_o (by omega), up2_o (by omega), hR3], up2_aa _ _ _ _, by rw [up2_o (by omega), up2_o (by omega), up2_aa], p1, by omega, by omega, ?_, fun q => by omega⟩
    refine Or.inr (Or.inr (Or.inr (Or.inr (Or.inr ⟨?_, up2_aa _ _ _ _⟩))))
    rw [up2_o (by omega), up2_aa]
