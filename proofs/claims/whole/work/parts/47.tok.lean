-- a token, on both sides
theorem Tp.cg {T : Nat → Int32} {sz : Nat} {G G1 G' G1' : Mem} (h : Tp T sz G G') (h1 : ∀ b j, (b = 114 ∧ j = 2) ∨ b = 115 → G1 b j = G b j) (h2 : ∀ b j, (b = 0 ∧ j = 14) ∨ b = 10 ∨ b = 16 ∨ b = 17 → G1' b j = G' b j) : Tp T sz G1 G1' := by
  obtain ⟨a0, a1, a2, a3, a4, a5⟩ := h
  refine ⟨a0, by rw [h1 _ _ (by omega)]; exact a1, by rw [h2 _ _ (by omega)]; exact a2, fun j hj => ?_, fun j hj => by rw [h2 _ _ (by omega)]; exact a4 j hj, fun j hj => by rw [h2 _ _ (by omega)]; exact a5 j hj⟩
  rw [h1 _ _ (by omega), h2 _ _ (by omega)]
  exact a3 j hj
def tkR (a v s w : Int32) : Prop := (∃ m, m < 6 ∧ a = nI m ∧ s = 1 ∧ w = nI (10 + m)) ∨ (∃ n, n < 6 ∧ a = 6 ∧ v = nI n ∧ s = 1 ∧ w = nI n) ∨ (∃ n, n < 10000 ∧ a = 7 ∧ v = nI n ∧ s = 2 ∧ w = nI n) ∨ (sgn8 a = true ∧ s = 3 ∧ w = a) ∨ (a = 9 ∧ s = 4) ∨ (a = 10 ∧ s = 5)
theorem wd11 {T : Nat → Int32} {sz p r : Nat} {G G' : Mem} (h : Tp T sz G G') (hpr : p ≤ r) (hr : r ≤ sz) (hl : ∀ j, p ≤ j → j < r → let8 (T j) = true) (h4 : G 114 4 = nI p) (h3 : G 114 3 = nI r) : ∃ Gz, j_X5_readWord_64 G = some Gz ∧ (∀ b j, ¬ (b = 114 ∧ (j = 5 ∨ j = 6)) → Gz b j = G b j) ∧ (((∀ i, i < 12 → ¬ wdM T p r i) ∧ Gz 114 5 = 10) ∨ ∃ i, i < 12 ∧ wdM T p r i ∧ Gz 114 5 = (if 6 < nI i then 6 else nI i) ∧ Gz 114 6 = nI i - 6) := by
  unfold j_X5_readWord_64
  rw [bnd_e]
  refine iter_fuel q_X5_readWord_72 (fun m s => ∃ H : Mem, s = (H, nI m) ∧ (∀ b j, ¬ (b = 114 ∧ (j = 5 ∨ j = 6)) → H b j = G b j) ∧ (((∀ i, i < m → ¬ wdM T p r i) ∧ H 114 5 = 10) ∨ ∃ i, i < 12 ∧ wdM T p r i ∧ H 114 5 = (if 6 < nI i then 6 else nI i) ∧ H 114 6 = nI i - 6)) (fun q => ∃ Gz, q = some Gz ∧ (∀ b j, ¬ (b = 114 ∧ (j = 5 ∨ j = 6)) → Gz b j = G b j) ∧ (((∀ i, i < 12 → ¬ wdM T p r i) ∧ Gz 114 5 = 10) ∨ ∃ i, i < 12 ∧ wdM T p r i ∧ Gz 114 5 = (if 6 < nI i then 6 else nI i) ∧ Gz 114 6 = nI i - 6)) 12 (by decide) ?_ ?_ ⟨_, rfl, fun b j hb => up2_o (by omega), Or.inl ⟨fun i hi => by omega, up2_aa _ _ _ _⟩⟩
  · rintro m s hm ⟨H, rfl, e1, e2⟩ rec
    left
    have hT : Tp T sz H G' := h.cg (fun b j hb => e1 b j (by omega)) (fun _ _ _ => rfl)
    have hw := isw11 hT hm hpr hr hl (by rw [e1 _ _ (by omega)]; exact h4) (by rw [e1 _ _ (by omega)]; exact h3)
    unfold q_X5_readWord_72
    show ∃ a', _ ∧ (if 12 ≤ nI m then _ else _) = _
    rw [if_neg (show ¬ (12 : Int32) ≤ nI m from nI_ge (b := 12) hm (by decide)), hw, bndO_e]
    by_cases hmm : wdC m = wdI (fun j => T (p + j)) (r - p)
    · rw [decide_eq_true hmm, if_neg (show ¬ b2 true = 0 by decide), bnd_e, bnd_e, bnd_e, nI_1]
      refine ⟨(up2 (up2 H 114 5 (if 6 < nI m then 6 else nI m)) 114 6 (nI m - 6), nI (m + 1)), ⟨_, rfl, fun b j hb => ?_, Or.inr ⟨m, hm, hmm, ?_, up2_aa _ _ _ _⟩⟩, rfl⟩
      · rw [up2_o (by omega), up2_o (by omega)]; exact e1 b j hb
      · rw [up2_o (by omega), up2_aa]
    · rw [decide_eq_false hmm, if_pos (show b2 false = 0 from rfl), bnd_e, nI_1]
      refine ⟨(H, nI (m + 1)), ⟨H, rfl, e1, ?_⟩, rfl⟩
      rcases e2 with ⟨q1, q2⟩ | q
      · refine Or.inl ⟨fun i hi => ?_, q2⟩
        by_cases him : i = m
        · rw [him]; exact hmm
        · exact q1 i (by omega)
      · exact Or.inr q
  · rintro s ⟨H, rfl, e1, e2⟩ rec
    exact ⟨H, rfl, e1, e2⟩
theorem word11 {T : Nat → Int32} {sz p r : Nat} {G G' : Mem} (h : Tp T sz G G') (hpr : p ≤ r) (hr : r ≤ sz) (hl : ∀ j, p ≤ j → j < r → let8 (T j) = true) (he : r < sz → let8 (T r) = false) (h4 : G 114 4 = nI p) (h3 : G 114 3 = nI p) : ∃ Gz, f_X5_readWord G = some Gz ∧ (∀ b j, ¬ (b = 114 ∧ (j = 3 ∨ j = 5 ∨ j = 6)) → Gz b j = G b j) ∧ Gz 114 3 = nI r ∧ (((∀ i, i < 12 → ¬ wdM T p r i) ∧ Gz 114 5 = 10) ∨ ∃ i, i < 12 ∧ wdM T p r i ∧ Gz 114 5 = (if 6 < nI i then 6 else nI i) ∧ Gz 114 6 = nI i - 6) := by
  have h160 := h.1
  obtain ⟨Gz, z1, z2, z3⟩ := wd11 (G := up2 G 114 3 (nI r)) (h.cg (fun b j hb => up2_o (by omega)) (fun _ _ _ => rfl)) hpr hr hl (by rw [up2_o (by omega)]; exact h4) (up2_aa _ _ _ _)
  have hz : f_X5_readWord G = j_X5_readWord_64 (up2 G 114 3 (nI r)) := by
    obtain ⟨-, a1, a2, a3, -, -⟩ := h
    unfold f_X5_readWord
    refine iter_fuel q_X5_readWord_2 (fun k a => a = (up2 G 114 3 (nI (p + k)), nI k)) (fun q => q = j_X5_readWord_64 (up2 G 114 3 (nI r))) (r - p) (by omega) ?_ ?_ ?_
    · rintro k a hk rfl rec
      left
      refine ⟨(up2 G 114 3 (nI (p + (k + 1))), nI (k + 1)), rfl, ?_⟩
      have hlt := hl (p + k) (by omega) (by omega)
      obtain ⟨-, -, c3, -⟩ := ch_s (a3 (p + k) (by omega)).2.2
      obtain ⟨d1, d2⟩ := c3.mp hlt
      unfold q_X5_readWord_2
      show (if 160 ≤ nI k then _ else _) = _
      rw [if_neg (show ¬ (160 : Int32) ≤ nI k from nI_ge (b := 160) (by omega) (by decide)), up2_aa, up2_o (by omega), up2_n _ _ _ (by decide), a1, if_neg (nI_ge (by omega) (by omega)), chk_t (inB_n (by omega) (by decide)), chk_t (inB_n (by omega) (by decide)), nI_clamp (by omega), (a3 (p + k) (by omega)).1, if_neg d1, if_neg d2, bnd_e, bnd_e, nI_1, nI_1, up2_twice]
      rfl
    · rintro a rfl rec
      have e : p + (r - p) = r := by omega
      rw [e]
      unfold q_X5_readWord_2
      show (if 160 ≤ nI (r - p) then _ else _) = _
      split
      · rfl
      rw [up2_aa, up2_o (by omega), up2_n _ _ _ (by decide), a1]
      by_cases hrs : r < sz
      · have hlt := he hrs
        obtain ⟨-, -, c3, -⟩ := ch_s (a3 r hrs).2.2
        rw [if_neg (nI_ge hrs (by omega)), chk_t (inB_n (by omega) (by decide)), chk_t (inB_n (by omega) (by decide)), nI_clamp (by omega), (a3 r hrs).1]
        by_cases d1 : T r &&& 255 < 97
        · rw [if_pos d1]
        · by_cases d2 : 122 < T r &&& 255
          · rw [if_neg d1, if_pos d2]
          · have := c3.mpr ⟨d1, d2⟩
            rw [hlt] at this
            exact absurd this (by decide)
      · rw [if_pos (nI_le (by omega) (by omega))]
    · show _ = _
      rw [Nat.add_zero, up2_same h3]
      rfl
  refine ⟨Gz, hz.trans z1, fun b j hb => ?_, ?_, z3⟩
  · rw [z2 b j (by omega), up2_o (by omega)]
  · rw [z2 _ _ (by omega), up2_aa]
theorem word12 {T : Nat → Int32} {sz p r : Nat} {G G' : Mem} (h : Tp T sz G G') (hpr : p ≤ r) (hr : r ≤ sz) (hl : ∀ j, p ≤ j → j < r → let8 (T j) = true) (he : r < sz → let8 (T r) = false) (h4 : G' 0 23 = nI p) (h3 : G' 0 24 = nI p) : ∃ Gz, iter q_X12_next_110 fuel G' = some Gz ∧ (∀ b j, ¬ (b = 0 ∧ (j = 24 ∨ j = 25 ∨ j = 26)) → Gz b j = G' b j) ∧ Gz 0 24 = nI r ∧ ((∃ a, a < 12 ∧ wdM T p r ((a + 6) % 12) ∧ Gz 0 26 = meantC.getD a 0 ∧ Gz 0 25 = 1) ∨ ((∀ a, a < 12 → ¬ wdM T p r ((a + 6) % 12)) ∧ Gz 0 25 = 5)) := by
  have h160 := h.1
  have hT : Tp T sz G (up2 G' 0 24 (nI r)) := h.cg (fun _ _ _ => rfl) (fun b j hb => up2_o (by omega))
  obtain ⟨v, v1, v2⟩ := now12 hT hpr hr (by rw [up2_o (by omega)]; exact h4) (up2_aa _ _ _ _)
  have hz : iter q_X12_next_110 fuel G' = j_X12_next_149 (up2 G' 0 24 (nI r)) := by
    obtain ⟨-, a1, a2, a3, -, -⟩ := h
    refine iter_fuel q_X12_next_110 (fun k a => a = up2 G' 0 24 (nI (p + k))) (fun q => q = j_X12_next_149 (up2 G' 0 24 (nI r))) (r - p) (by omega) ?_ ?_ ?_
    · rintro k a hk rfl rec
      left
      refine ⟨up2 G' 0 24 (nI (p + (k + 1))), rfl, ?_⟩
      have hlt := hl (p + k) (by omega) (by omega)
      unfold q_X12_next_110
      rw [up2_aa, up2_o (by omega), up2_n _ _ _ (by decide), a2, if_neg (nI_ge (by omega) (by omega)), chk_t (inB_n (by omega) (by decide)), nI_clamp (by omega), (a3 (p + k) (by omega)).2.1, if_neg (of_decide_eq_true hlt), bnd_e, nI_1, up2_twice]
      rfl
    · rintro a rfl rec
      have e : p + (r - p) = r := by omega
      rw [e]
      unfold q_X12_next_110
      rw [up2_aa, up2_o (by omega), up2_n _ _ _ (by decide), a2]
      by_cases hrs : r < sz
      · have hlt : ¬ ¬ f_X12_isLetter (T r) = 0 := of_decide_eq_false (he hrs)
        rw [if_neg (nI_ge hrs (by omega)), chk_t (inB_n (by omega) (by decide)), nI_clamp (by omega), (a3 r hrs).2.1, if_pos (Decidable.not_not.mp hlt)]
      · rw [if_pos (nI_le (by omega) (by omega))]
    · show _ = _
      rw [Nat.add_zero, up2_same h3]
  rw [hz]
  unfold j_X12_next_149
  rw [v1, bndO_e, bnd_e, up2_aa]
  rcases v2 with ⟨a, ha, hm, rfl⟩ | ⟨hm, rfl⟩
  · rw [if_pos ((show ∀ a, a < 12 → (0 : Int32) ≤ meantC.getD a 0 by decide +kernel) a ha), bnd_e]
    refine ⟨_, rfl, fun b j hb => ?_, ?_, Or.inl ⟨a, ha, hm, ?_, up2_aa _ _ _ _⟩⟩
    · rw [up2_o (by omega), up2_o (by omega), up2_o (by omega)]
    · rw [up2_o (by omega), up2_o (by omega), up2_aa]
    · rw [up2_o (by omega), up2_aa]
  · rw [if_neg (by decide), bnd_e]
    refine ⟨_, rfl, fun b j hb => ?_, ?_, Or.inr ⟨hm, up2_aa _ _ _ _⟩⟩
    · rw [up2_o (by omega), up2_o (by omega), up2_o (by omega)]
    · rw [up2_o (by omega), up2_o (by omega), up2_aa]
