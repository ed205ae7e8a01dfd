-- a text that is not kept: both sides name the place
theorem no11 {tx ln p : Nat} {G Gf : Mem} {O : MemO} {S : Nat → Nat} (h7 : G 100 7 < 6) (hc : f_X5_compiled tx ln G O = some (Gf, O, 0)) (hp : Gf 114 4 = nI p) : f_X11_text tx ln G O S = some (S, up2 Gf 114 2 0, O, 0, -100 - nI p) := by
  unfold f_X11_text
  rw [if_pos h7, hc, bndP3_e, if_neg (by decide), hp]
  rfl
theorem no12 {p : Nat} {Gf' : Mem} (hp : p ≤ 160) (h21 : Gf' 0 21 = nI p) : j_X12_text_61 Gf' = some (up2 Gf' 0 14 0, -100 - nI p) := by
  have hge : 0 ≤ Gf' 0 21 := by rw [h21]; exact nI_le (a := 0) (by omega) (by omega)
  unfold j_X12_text_61 j_X12_text_80
  rw [if_pos hge, bnd_e, up2_o (by omega), if_neg (Int32.not_lt.mpr hge), h21]
/-- the reference keeps a text -/
theorem yes12 {Gm' : Mem} {t e2 : Nat} (ht : t < 6) (he : e2 < 160) (h21 : Gm' 0 21 = -1) (h25 : Gm' 0 25 = 4) (h20 : Gm' 0 20 = nI e2) (h15 : Gm' 0 15 = nI t) : ∃ Gz', j_X12_text_61 Gm' = some (Gz', nI t) ∧ (∀ b j, b ≠ 0 → b ≠ 11 → b ≠ 12 → b ≠ 13 → Gz' b j = Gm' b j) ∧ (∀ j, j ≠ 14 → j ≠ 15 → Gz' 0 j = Gm' 0 j) ∧ Gz' 0 14 = 0 ∧ Gz' 0 15 = nI (t + 1) ∧ (∀ k, k < e2 → Gz' 11 (170 * t + k) = Gm' 11 (1020 + k) ∧ Gz' 12 (170 * t + k) = Gm' 12 (1020 + k)) ∧ (∀ j, j < 3 → Gz' 13 (3 * t + j) = Gm' 13 (18 + j)) ∧ (∀ j, ¬ (170 * t ≤ j ∧ j < 170 * t + e2) → Gz' 11 j = Gm' 11 j ∧ Gz' 12 j = Gm' 12 j) ∧ ∀ j, ¬ (3 * t ≤ j ∧ j < 3 * t + 3) → Gz' 13 j = Gm' 13 j := by
  unfold j_X12_text_61 j_X12_text_80
  rw [h21, if_neg (by decide), if_pos h25, bnd_e, up2_o (by omega), h21, if_pos (by decide)]
  refine iter_fuel q_X12_text_102 (fun k a => ∃ H : Mem, a = (H, nI k) ∧ (∀ b j, b ≠ 0 → b ≠ 11 → b ≠ 12 → H b j = Gm' b j) ∧ (∀ j, j ≠ 14 → H 0 j = Gm' 0 j) ∧ H 0 14 = 0 ∧ (∀ i, i < k → H 11 (170 * t + i) = Gm' 11 (1020 + i) ∧ H 12 (170 * t + i) = Gm' 12 (1020 + i)) ∧ (∀ j, ¬ (170 * t ≤ j ∧ j < 170 * t + k) → H 11 j = Gm' 11 j ∧ H 12 j = Gm' 12 j)) (fun q => ∃ Gz', q = some (Gz', nI t) ∧ (∀ b j, b ≠ 0 → b ≠ 11 → b ≠ 12 → b ≠ 13 → Gz' b j = Gm' b j) ∧ (∀ j, j ≠ 14 → j ≠ 15 → Gz' 0 j = Gm' 0 j) ∧ Gz' 0 14 = 0 ∧ Gz' 0 15 = nI (t + 1) ∧ (∀ k, k < e2 → Gz' 11 (170 * t + k) = Gm' 11 (1020 + k) ∧ Gz' 12 (170 * t + k) = Gm' 12 (1020 + k)) ∧ (∀ j, j < 3 → Gz' 13 (3 * t + j) = Gm' 13 (18 + j)) ∧ (∀ j, ¬ (170 * t ≤ j ∧ j < 170 * t + e2) → Gz' 11 j = Gm' 11 j ∧ Gz' 12 j = Gm' 12 j) ∧ ∀ j, ¬ (3 * t ≤ j ∧ j < 3 * t + 3) → Gz' 13 j = Gm' 13 j) e2 (by omega) ?_ ?_ ⟨_, rfl, fun b j x y z => up2_o (by omega), fun j hj => up2_o (by omega), up2_aa _ _ _ _, fun i hi => by omega, fun j _ => ⟨up2_o (by omega), up2_o (by omega)⟩⟩
  · rintro k a hk ⟨H, rfl, f1, f2, f3, f4, f5⟩ rec
    left
    have e1 : (1020 : Int32) + nI k = nI (1020 + k) := by rw [show (1020 : Int32) = nI 1020 from rfl, nI_add]
    have e3 : (170 : Int32) * nI t + nI k = nI (170 * t + k) := by rw [show (170 : Int32) = nI 170 from rfl, mulI, nI_add]
    unfold q_X12_text_102
    show ∃ a', _ ∧ (if H 0 20 ≤ nI k then _ else _) = _
    rw [f2 20 (by decide), h20, if_neg (nI_ge hk (by omega)), f2 15 (by decide), h15, e1, e3, chk_t (inB_n (by omega) (by decide)), chk_t (inB_n (by omega) (by decide)), bnd_e, up2_o (by omega), f2 15 (by decide), h15, e3, chk_t (inB_n (by omega) (by decide)), chk_t (inB_n (by omega) (by decide)), bnd_e, bnd_e, nI_1, nI_clamp (by omega), nI_clamp (by omega), up2_o (by omega)]
    refine ⟨_, ⟨_, rfl, fun b j x y z => ?_, fun j hj => ?_, ?_, fun i hi => ?_, fun j hj => ⟨?_, ?_⟩⟩, rfl⟩
    · rw [up2_o (by omega), up2_o (by omega), f1 b j x y z]
    · rw [up2_o (by omega), up2_o (by omega), f2 j hj]
    · rw [up2_o (by omega), up2_o (by omega), f3]
    · have g := f5 (1020 + k) (by omega)
      by_cases hik : i = k
      · rw [hik, up2_o (by omega), up2_aa, up2_aa, g.1, g.2]
        exact ⟨rfl, rfl⟩
      · rw [up2_o (by omega), up2_o (by omega), up2_o (by omega), up2_o (by omega)]
        exact f4 i (by omega)
    · rw [up2_o (by omega), up2_o (by omega)]; exact (f5 j (by omega)).1
    · rw [up2_o (by omega), up2_o (by omega)]; exact (f5 j (by omega)).2
  · rintro a ⟨H, rfl, f1, f2, f3, f4, f5⟩ rec
    unfold q_X12_text_102
    show ∃ Gz', (if H 0 20 ≤ nI e2 then _ else _) = _ ∧ _
    rw [f2 20 (by decide), h20, if_pos (nI_le (Nat.le_refl _) (by omega))]
    refine iter_fuel q_X12_text_168 (fun k a => ∃ M : Mem, a = (M, nI k) ∧ (∀ b j, b ≠ 13 → M b j = H b j) ∧ (∀ i, i < k → M 13 (3 * t + i) = Gm' 13 (18 + i)) ∧ ∀ j, ¬ (3 * t ≤ j ∧ j < 3 * t + k) → M 13 j = Gm' 13 j) (fun q => ∃ Gz', q = some (Gz', nI t) ∧ (∀ b j, b ≠ 0 → b ≠ 11 → b ≠ 12 → b ≠ 13 → Gz' b j = Gm' b j) ∧ (∀ j, j ≠ 14 → j ≠ 15 → Gz' 0 j = Gm' 0 j) ∧ Gz' 0 14 = 0 ∧ Gz' 0 15 = nI (t + 1) ∧ (∀ k, k < e2 → Gz' 11 (170 * t + k) = Gm' 11 (1020 + k) ∧ Gz' 12 (170 * t + k) = Gm' 12 (1020 + k)) ∧ (∀ j, j < 3 → Gz' 13 (3 * t + j) = Gm' 13 (18 + j)) ∧ (∀ j, ¬ (170 * t ≤ j ∧ j < 170 * t + e2) → Gz' 11 j = Gm' 11 j ∧ Gz' 12 j = Gm' 12 j) ∧ ∀ j, ¬ (3 * t ≤ j ∧ j < 3 * t + 3) → Gz' 13 j = Gm' 13 j) 3 (by decide) ?_ ?_ ⟨H, rfl, fun _ _ _ => rfl, fun i hi => by omega, fun j _ => f1 13 j (by decide) (by decide) (by decide)⟩
    · rintro k a hk ⟨M, rfl, m1, m2, m3⟩ rec2
      left
      have e1 : (18 : Int32) + nI k = nI (18 + k) := by rw [show (18 : Int32) = nI 18 from rfl, nI_add]
      have e3 : (3 : Int32) * nI t + nI k = nI (3 * t + k) := by rw [show (3 : Int32) = nI 3 from rfl, mulI, nI_add]
      unfold q_X12_text_168
      show ∃ a', _ ∧ (if 3 ≤ nI k then _ else _) = _
      rw [if_neg (show ¬ (3 : Int32) ≤ nI k from nI_ge (b := 3) hk (by decide)), m1 0 15 (by decide), f2 15 (by decide), h15, e1, e3, chk_t (inB_n (by omega) (by decide)), chk_t (inB_n (by omega) (by decide)), bnd_e, bnd_e, nI_1, nI_clamp (by omega), nI_clamp (by omega)]
      refine ⟨_, ⟨_, rfl, fun b j x => ?_, fun i hi => ?_, fun j hj => ?_⟩, rfl⟩
      · rw [up2_o (by omega), m1 b j x]
      · by_cases hik : i = k
        · rw [hik, up2_aa]
          exact m3 _ (by omega)
        · rw [up2_o (by omega)]; exact m2 i (by omega)
      · rw [up2_o (by omega)]; exact m3 j (by omega)
    · rintro a ⟨M, rfl, m1, m2, m3⟩ rec2
      unfold q_X12_text_168
      show ∃ Gz', (if 3 ≤ nI 3 then _ else _) = _ ∧ _
      rw [if_pos (by decide), bnd_e, m1 0 15 (by decide), f2 15 (by decide), h15, nI_1, up2_aa]
      refine ⟨_, by rw [show nI (t + 1) - 1 = nI t from (subI (a := t + 1) (b := 1) (by omega)).trans (by rw [show t + 1 - 1 = t by omega])], fun b j x y z w => ?_, fun j x y => ?_, ?_, up2_aa _ _ _ _, fun k hk => ?_, fun j hj => ?_, fun j hj => ?_, fun j hj => ?_⟩
      · rw [up2_o (by omega), m1 b j w, f1 b j x y z]
      · rw [up2_o (by omega), m1 0 j (by decide), f2 j x]
      · rw [up2_o (by omega), m1 0 14 (by decide), f3]
      · rw [up2_o (by omega), up2_o (by omega), m1 _ _ (by decide), m1 _ _ (by decide)]; exact f4 k hk
      · rw [up2_o (by omega)]; exact m2 j hj
      · rw [up2_o (by omega), up2_o (by omega), m1 _ _ (by decide), m1 _ _ (by decide)]; exact f5 j hj
      · rw [up2_o (by omega)]; exact m3 j hj
