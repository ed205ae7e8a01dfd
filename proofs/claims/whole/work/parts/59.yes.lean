-- the class keeps a text
theorem yes11 {t e2 : Nat} {G Gc : Mem} {O : MemO} {S : Nat → Nat} (ht : t < 6) (he : e2 < 160) (h7 : G 100 7 = nI t) (hc : ∀ ln O, f_X5_compiled (2000 + 4 * t) ln G O = endC (2000 + 4 * t) ln O Gc) (h9 : Gc 114 5 = 9) (hl : Gc 114 7 = nI e2) (h7c : Gc 100 7 = nI t) : ∃ (G1 : Mem) (O1 : MemO), f_X11_text (2000 + 4 * t) e2 G O S = some (stx S (2000 + 4 * t) e2, G1, O1, 1, nI t) ∧ (∀ b j, b ≠ 2000 + 4 * t → b ≠ 2000 + 4 * t + 1 → b ≠ 2000 + 4 * t + 3 → ¬ (b = 100 ∧ j = 7) → ¬ (b = 114 ∧ j = 2) → G1 b j = Gc b j) ∧ G1 114 2 = 0 ∧ G1 100 7 = nI (t + 1) ∧ (∀ k, k < e2 → G1 (2000 + 4 * t + 1) k = Gc 116 k) ∧ (∀ b j, b ≠ 2000 + 4 * t → ¬ (b = 117 ∧ j = t) → O1 b j = O b j) ∧ O1 117 t = some (2000 + 4 * t) ∧ ∀ j i a, O1 j i = some a → O j i = some a ∨ a = 2000 + 4 * t ∨ a = 2000 + 4 * t + 1 ∨ a = 2000 + 4 * t + 2 ∨ a = 2000 + 4 * t + 3 := by
  obtain ⟨tx, htx⟩ : ∃ x, x = 2000 + 4 * t := ⟨_, rfl⟩
  rw [← htx] at hc ⊢
  have hlt : nI e2 < (160 : Int32) := nI_lt (b := 160) he (by decide)
  have h0 : ¬ nI e2 < (0 : Int32) := nI_nlt (b := 0) (by omega) (by omega)
  have hlnB : lnB (nI e2) e2 = true := decide_eq_true ⟨nI_clamp (by omega), h0, by omega⟩
  have hcp : cpB 0 0 (nI e2) 160 e2 = true := decide_eq_true ⟨by decide, by decide, h0, by rw [nI_clamp (by omega)]; show 0 + e2 ≤ 160; omega, by rw [nI_clamp (by omega)]; show 0 + e2 ≤ e2; omega⟩
  unfold f_X11_text
  rw [h7, if_pos (show nI t < (6 : Int32) from nI_lt (b := 6) ht (by decide)), hc]
  unfold endC f_J7_copyOf_59c91
  have z7 : zr 0 Gc tx 114 7 = nI e2 := by unfold zr; rw [if_neg (by omega)]; exact hl
  rw [if_pos h9, bnd_e, bnd_e, z7, show nI 160 = (160 : Int32) from rfl, if_neg (show ¬ nI e2 = (160 : Int32) from fun q => by have := (nI_eq (b := 160) (by omega) (by decide)).mp q; omega), chk_t hlnB, bnd_e, if_pos hlt, chk_t hcp, bnd_e, bndO_e]
  unfold f_X9_init
  rw [bnd_e, bnd_e, bnd_e, bnd_e, bndP_e]
  obtain ⟨A, hA⟩ : ∃ x, x = zr 0 (cpG (zr 0 (zr 0 Gc tx) (tx + 1)) 116 (tx + 1) 0 0 (nI e2)) (tx + 3) := ⟨_, rfl⟩
  obtain ⟨B, hB⟩ : ∃ x, x = up2 (up2 (up2 (zr none O tx) tx 2 (some (tx + 3))) tx 0 (some (tx + 1))) tx 1 (some (tx + 2)) := ⟨_, rfl⟩
  rw [← hA, ← hB]
  have hAn : ∀ b j, b ≠ tx → b ≠ tx + 1 → b ≠ tx + 3 → A b j = Gc b j := by
    intro b j x y w
    rw [hA]
    unfold zr cpG
    rw [if_neg w, if_neg y]
    show (if b = tx + 1 then _ else if b = tx then _ else Gc b) j = _
    rw [if_neg y, if_neg x]
  have hA1 : ∀ k, k < e2 → A (tx + 1) k = Gc 116 k := by
    intro k hk
    rw [hA]
    unfold zr cpG va_cpy
    rw [if_neg (by omega), if_pos rfl, nI_clamp (by omega)]
    show (if 0 ≤ k ∧ k < 0 + e2 then (if 116 = tx + 1 then _ else if 116 = tx then _ else Gc 116) (0 + (k - 0)) else _) = _
    rw [if_pos (by omega), if_neg (by omega), if_neg (by omega)]
    congr 1
    omega
  have hBn : ∀ b j, b ≠ tx → B b j = O b j := by
    intro b j x
    rw [hB, up2_o (by omega), up2_o (by omega), up2_o (by omega)]
    unfold zr
    rw [if_neg x]
  have hBa : ∀ j i a, B j i = some a → O j i = some a ∨ a = tx + 1 ∨ a = tx + 2 ∨ a = tx + 3 := by
    intro j i a ha
    by_cases hj : j = tx
    · rw [hj, hB] at ha
      by_cases i1 : i = 1
      · rw [i1, up2_aa] at ha
        injection ha with ha
        exact Or.inr (Or.inr (Or.inl ha.symm))
      · by_cases i0 : i = 0
        · rw [i0, up2_o (by omega), up2_aa] at ha
          injection ha with ha
          exact Or.inr (Or.inl ha.symm)
        · by_cases i2 : i = 2
          · rw [i2, up2_o (by omega), up2_o (by omega), up2_aa] at ha
            injection ha with ha
            exact Or.inr (Or.inr (Or.inr ha.symm))
          · rw [up2_o (by omega), up2_o (by omega), up2_o (by omega)] at ha
            unfold zr at ha
            rw [if_pos rfl] at ha
            exact absurd ha (by simp)
    · rw [hBn j i hj] at ha
      exact Or.inl ha
  have hd : decide (B tx 0 = some (tx + 1) ∧ B tx 1 = some (tx + 2) ∧ B tx 2 = some (tx + 3)) = true := decide_eq_true ⟨by rw [hB, up2_o (by omega), up2_aa], by rw [hB, up2_aa], by rw [hB, up2_o (by omega), up2_o (by omega), up2_aa]⟩
  have hA7 : A 100 7 = nI t := by rw [hAn _ _ (by omega) (by omega) (by omega), h7c]
  rw [chk_t hd, bndP3_e, if_pos rfl, bnd_e, hA7]
  unfold f_X11_keepText f_X5_clear
  rw [hA7, if_neg (show ¬ (6 : Int32) ≤ nI t from nI_ge (b := 6) ht (by decide)), chk_t (inB_n ht (by decide)), bnd_e, bnd_e, bndP_e, bnd_e, bndO_e, nI_1, nI_clamp (by omega)]
  refine ⟨_, _, rfl, fun b j x y w u v => ?_, up2_aa _ _ _ _, ?_, fun k hk => ?_, fun b j x y => ?_, up2_aa _ _ _ _, fun j i a ha => ?_⟩
  · rw [up2_o (by omega), up2_o (by omega), hAn b j x y w]
  · rw [up2_o (by omega), up2_aa]
  · rw [up2_o (by omega), up2_o (by omega), hA1 k hk]
  · rw [up2_o (by omega), hBn b j x]
  · by_cases hj : j = 117 ∧ i = t
    · rw [hj.1, hj.2, up2_aa] at ha
      injection ha with ha
      exact Or.inr (Or.inl ha.symm)
    · rw [up2_o (by omega)] at ha
      rcases hBa j i a ha with q | q | q | q
      · exact Or.inl q
      · exact Or.inr (Or.inr (Or.inl q))
      · exact Or.inr (Or.inr (Or.inr (Or.inl q)))
      · exact Or.inr (Or.inr (Or.inr (Or.inr q)))
