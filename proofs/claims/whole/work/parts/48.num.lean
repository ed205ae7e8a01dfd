-- a number, on both sides; then the next token
def nvI (T : Nat → Int32) (p : Nat) : Nat → Int32
  | 0 => 0
  | k + 1 => 10 * nvI T p k + T (p + k) - 48
theorem nvI_n {T : Nat → Int32} {p : Nat} : ∀ k, k ≤ 4 → (∀ j, j < k → 48 ≤ T (p + j) ∧ T (p + j) ≤ 57) → ∃ n, n < 10 ^ k ∧ nvI T p k = nI n := by
  intro k
  induction k with
  | zero => intro _ _; exact ⟨0, by decide, rfl⟩
  | succ k ih =>
    intro hk hd
    obtain ⟨n, h1, h2⟩ := ih (by omega) (fun j hj => hd j (by omega))
    obtain ⟨d1, d2⟩ := hd k (by omega)
    obtain ⟨d, hd1, hd2⟩ : ∃ d, d < 10 ∧ T (p + k) = nI (48 + d) := by
      have e1 := Int32.le_iff_toInt_le.mp d1
      have e2 := Int32.le_iff_toInt_le.mp d2
      rw [show (48 : Int32).toInt = 48 from rfl] at e1
      rw [show (57 : Int32).toInt = 57 from rfl] at e2
      have h0 : ¬ T (p + k) < 0 := fun q => by
        have := Int32.lt_iff_toInt_lt.mp q
        rw [show (0 : Int32).toInt = 0 from rfl] at this
        omega
      obtain ⟨m, hm, hme⟩ := nI_of h0
      rw [hme, nI_toInt hm] at e1 e2
      exact ⟨m - 48, by omega, by rw [hme, show 48 + (m - 48) = m by omega]⟩
    have hp : 10 ^ k ≤ 1000 := by
      have : k = 0 ∨ k = 1 ∨ k = 2 ∨ k = 3 := by omega
      rcases this with rfl | rfl | rfl | rfl <;> decide
    refine ⟨10 * n + d, by rw [Nat.pow_succ]; omega, ?_⟩
    show 10 * nvI T p k + T (p + k) - 48 = _
    rw [h2, hd2, show (10 : Int32) = nI 10 from rfl, mulI, nI_add, show (48 : Int32) = nI 48 from rfl, subI (by omega)]
    congr 1
    omega
theorem num11 {T : Nat → Int32} {sz p r : Nat} {G G' : Mem} (h : Tp T sz G G') (hpr : p ≤ r) (hr : r ≤ sz) (hl : ∀ j, p ≤ j → j < r → dig8 (T j) = true) (he : r < sz → dig8 (T r) = false) (h4 : G 114 4 = nI p) (h3 : G 114 3 = nI p) : ∃ Gz, f_X5_readNumber G = some Gz ∧ (∀ b j, ¬ (b = 114 ∧ (j = 3 ∨ j = 5 ∨ j = 6)) → Gz b j = G b j) ∧ Gz 114 3 = nI r ∧ Gz 114 6 = nvI T p (r - p) ∧ Gz 114 5 = (if r - p ≤ 4 then 7 else 10) := by
  obtain ⟨h160, a1, a2, a3, -, -⟩ := h
  unfold f_X5_readNumber
  rw [bnd_e]
  have fin : ∀ H : Mem, (∀ b j, ¬ (b = 114 ∧ (j = 3 ∨ j = 6)) → H b j = G b j) → H 114 3 = nI r → H 114 6 = nvI T p (r - p) → ∃ Gz, j_X5_readNumber_93 H = some Gz ∧ (∀ b j, ¬ (b = 114 ∧ (j = 3 ∨ j = 5 ∨ j = 6)) → Gz b j = G b j) ∧ Gz 114 3 = nI r ∧ Gz 114 6 = nvI T p (r - p) ∧ Gz 114 5 = (if r - p ≤ 4 then 7 else 10) := by
    intro H e1 e2 e3
    unfold j_X5_readNumber_93
    rw [e2, e1 114 4 (by omega), h4, subI hpr]
    by_cases h4' : r - p ≤ 4
    · rw [if_pos (show nI (r - p) ≤ (4 : Int32) from nI_le (b := 4) h4' (by decide)), bnd_e, if_pos h4']
      exact ⟨_, rfl, fun b j hb => by rw [up2_o (by omega), e1 b j (by omega)], by rw [up2_o (by omega), e2], by rw [up2_o (by omega), e3], up2_aa _ _ _ _⟩
    · rw [if_neg (show ¬ nI (r - p) ≤ (4 : Int32) from nI_ge (a := 4) (by omega) (by omega)), bnd_e, if_neg h4']
      exact ⟨_, rfl, fun b j hb => by rw [up2_o (by omega), e1 b j (by omega)], by rw [up2_o (by omega), e2], by rw [up2_o (by omega), e3], up2_aa _ _ _ _⟩
  refine iter_fuel q_X5_readNumber_7 (fun k a => ∃ H : Mem, a = (H, nI k) ∧ (∀ b j, ¬ (b = 114 ∧ (j = 3 ∨ j = 6)) → H b j = G b j) ∧ H 114 3 = nI (p + k) ∧ H 114 6 = nvI T p k) (fun q => ∃ Gz, q = some Gz ∧ (∀ b j, ¬ (b = 114 ∧ (j = 3 ∨ j = 5 ∨ j = 6)) → Gz b j = G b j) ∧ Gz 114 3 = nI r ∧ Gz 114 6 = nvI T p (r - p) ∧ Gz 114 5 = (if r - p ≤ 4 then 7 else 10)) (r - p) (by omega) ?_ ?_ ⟨_, rfl, fun b j hb => up2_o (by omega), by rw [up2_o (by omega)]; exact h3, up2_aa _ _ _ _⟩
  · rintro k a hk ⟨H, rfl, e1, e2, e3⟩ rec
    left
    have hlt := hl (p + k) (by omega) (by omega)
    obtain ⟨-, -, -, c4, c5, -, -⟩ := ch_s (a3 (p + k) (by omega)).2.2
    obtain ⟨d1, d2⟩ := c4.mp hlt
    have hc : H 115 (p + k) = T (p + k) := by rw [e1 _ _ (by omega), (a3 (p + k) (by omega)).1, c5 (Or.inr (Or.inl hlt))]
    rw [c5 (Or.inr (Or.inl hlt))] at d1 d2
    refine ⟨(up2 (up2 H 114 6 (10 * nvI T p k + T (p + k) - 48)) 114 3 (nI (p + k + 1)), nI (k + 1)), ⟨_, rfl, fun b j hb => by rw [up2_o (by omega), up2_o (by omega), e1 b j hb], up2_aa _ _ _ _, by rw [up2_o (by omega), up2_aa]; rfl⟩, ?_⟩
    unfold q_X5_readNumber_7
    show (if 160 ≤ nI k then _ else _) = _
    rw [if_neg (show ¬ (160 : Int32) ≤ nI k from nI_ge (b := 160) (by omega) (by decide)), e2, e1 114 2 (by omega), a1, if_neg (nI_ge (by omega) (by omega)), chk_t (inB_n (by omega) (by decide)), chk_t (inB_n (by omega) (by decide)), chk_t (inB_n (by omega) (by decide)), nI_clamp (by omega), hc, if_neg d1, if_neg d2, bnd_e, bnd_e, bnd_e, up2_o (by omega), e2, e3, nI_1, nI_1]
  · rintro a ⟨H, rfl, e1, e2, e3⟩ rec
    have e : p + (r - p) = r := by omega
    rw [e] at e2
    have hf := fin H e1 e2 e3
    unfold q_X5_readNumber_7
    show ∃ Gz, (if 160 ≤ nI (r - p) then _ else _) = _ ∧ _
    by_cases h6 : (160 : Int32) ≤ nI (r - p)
    · rw [if_pos h6]; exact hf
    rw [if_neg h6, e2, e1 114 2 (by omega), a1]
    by_cases hrs : r < sz
    · have hlt := he hrs
      obtain ⟨-, -, -, c4, -⟩ := ch_s (a3 r hrs).2.2
      rw [if_neg (nI_ge hrs (by omega)), chk_t (inB_n (by omega) (by decide)), chk_t (inB_n (by omega) (by decide)), nI_clamp (by omega), e1 115 r (by omega), (a3 r hrs).1]
      by_cases d1 : T r &&& 255 < 48
      · rw [if_pos d1]; exact hf
      · by_cases d2 : 57 < T r &&& 255
        · rw [if_neg d1, if_pos d2]; exact hf
        · have := c4.mpr ⟨d1, d2⟩
          rw [hlt] at this
          exact absurd this (by decide)
    · rw [if_pos (nI_le (by omega) (by omega))]; exact hf
theorem num12 {T : Nat → Int32} {sz p r : Nat} {G G' : Mem} (h : Tp T sz G G') (hpr : p ≤ r) (hr : r ≤ sz) (hl : ∀ j, p ≤ j → j < r → dig8 (T j) = true) (he : r < sz → dig8 (T r) = false) (h4 : G' 0 23 = nI p) (h3 : G' 0 24 = nI p) (h6 : G' 0 26 = 0) : ∃ Gz, iter q_X12_next_188 fuel G' = some Gz ∧ (∀ b j, ¬ (b = 0 ∧ (j = 24 ∨ j = 25 ∨ j = 26)) → Gz b j = G' b j) ∧ Gz 0 24 = nI r ∧ (r - p ≤ 4 → Gz 0 26 = nvI T p (r - p)) ∧ Gz 0 25 = (if r - p ≤ 4 then 2 else 5) := by
  obtain ⟨h160, a1, a2, a3, -, -⟩ := h
  have fin : ∀ H : Mem, (∀ b j, ¬ (b = 0 ∧ (j = 24 ∨ j = 26)) → H b j = G' b j) → H 0 24 = nI r → H 0 26 = nvI T p (min (r - p) 4) → ∃ Gz, j_X12_next_264 H = some Gz ∧ (∀ b j, ¬ (b = 0 ∧ (j = 24 ∨ j = 25 ∨ j = 26)) → Gz b j = G' b j) ∧ Gz 0 24 = nI r ∧ (r - p ≤ 4 → Gz 0 26 = nvI T p (r - p)) ∧ Gz 0 25 = (if r - p ≤ 4 then 2 else 5) := by
    intro H e1 e2 e3
    unfold j_X12_next_264
    rw [e2, e1 0 23 (by omega), h4, subI hpr]
    by_cases h4' : r - p ≤ 4
    · rw [if_pos (show nI (r - p) ≤ (4 : Int32) from nI_le (b := 4) h4' (by decide)), bnd_e, if_pos h4']
      exact ⟨_, rfl, fun b j hb => by rw [up2_o (by omega), e1 b j (by omega)], by rw [up2_o (by omega), e2], fun _ => by rw [up2_o (by omega), e3, Nat.min_eq_left h4'], up2_aa _ _ _ _⟩
    · rw [if_neg (show ¬ nI (r - p) ≤ (4 : Int32) from nI_ge (a := 4) (by omega) (by omega)), bnd_e, if_neg h4']
      exact ⟨_, rfl, fun b j hb => by rw [up2_o (by omega), e1 b j (by omega)], by rw [up2_o (by omega), e2], fun q => absurd q h4', up2_aa _ _ _ _⟩
  refine iter_fuel q_X12_next_188 (fun k a => (∀ b j, ¬ (b = 0 ∧ (j = 24 ∨ j = 26)) → a b j = G' b j) ∧ a 0 24 = nI (p + k) ∧ a 0 26 = nvI T p (min k 4)) (fun q => ∃ Gz, q = some Gz ∧ (∀ b j, ¬ (b = 0 ∧ (j = 24 ∨ j = 25 ∨ j = 26)) → Gz b j = G' b j) ∧ Gz 0 24 = nI r ∧ (r - p ≤ 4 → Gz 0 26 = nvI T p (r - p)) ∧ Gz 0 25 = (if r - p ≤ 4 then 2 else 5)) (r - p) (by omega) ?_ ?_ ⟨fun _ _ _ => rfl, h3, h6⟩
  · rintro k H hk ⟨e1, e2, e3⟩ rec
    left
    have hlt : ¬ f_X12_isDigit (T (p + k)) = 0 := of_decide_eq_true (hl (p + k) (by omega) (by omega))
    unfold q_X12_next_188
    rw [e2, e1 0 14 (by omega), a2, if_neg (nI_ge (by omega) (by omega)), chk_t (inB_n (by omega) (by decide)), nI_clamp (by omega), e1 10 (p + k) (by omega), (a3 (p + k) (by omega)).2.1, if_neg hlt, e1 0 23 (by omega), h4, subI (by omega), show p + k - p = k by omega]
    by_cases h4' : 4 ≤ k
    · rw [if_pos (show (4 : Int32) ≤ nI k from nI_le (a := 4) h4' (by omega)), bnd_e, nI_1]
      exact ⟨_, ⟨fun b j hb => by rw [up2_o (by omega), e1 b j hb], up2_aa _ _ _ _, by rw [up2_o (by omega), e3, Nat.min_eq_right h4', Nat.min_eq_right (by omega)]⟩, rfl⟩
    · rw [if_neg (show ¬ (4 : Int32) ≤ nI k from nI_ge (b := 4) (by omega) (by decide)), chk_t (inB_n (by omega) (by decide)), bnd_e, bnd_e, up2_o (by omega), e2, nI_1, e3]
      exact ⟨_, ⟨fun b j hb => by rw [up2_o (by omega), up2_o (by omega), e1 b j hb], up2_aa _ _ _ _, by rw [up2_o (by omega), up2_aa, Nat.min_eq_left (by omega), Nat.min_eq_left (by omega)]; rfl⟩, rfl⟩
  · rintro H ⟨e1, e2, e3⟩ rec
    have e : p + (r - p) = r := by omega
    rw [e] at e2
    have hf := fin H e1 e2 e3
    unfold q_X12_next_188
    rw [e2, e1 0 14 (by omega), a2]
    by_cases hrs : r < sz
    · have hlt : ¬ ¬ f_X12_isDigit (T r) = 0 := of_decide_eq_false (he hrs)
      rw [if_neg (nI_ge hrs (by omega)), chk_t (inB_n (by omega) (by decide)), nI_clamp (by omega), e1 10 r (by omega), (a3 r hrs).2.1, if_pos (Decidable.not_not.mp hlt)]
      exact hf
    · rw [if_pos (nI_le (by omega) (by omega))]
      exact hf
