theorem val12 {ac wi f : Nat → Int32} {G : Mem} {r ln p en : Nat} {x1 : Int32} (hr : r < 6) (hp : p < 3) (hx : x1 = nI p) (hln : ln ≤ 160) (hG : G 0 16 = nI r) (hcode : ∀ k, k < ln → G 11 (170 * r + k) = ac k ∧ G 12 (170 * r + k) = wi k) (hend : G 13 (3 * r + p) = nI en) (hok : ∀ k, k < ln → okStep (ac k) (wi k)) (hf : ∀ j, j < 6 → G 15 j = f j) (hel : en ≤ ln) : ∀ (n fl a h : Nat) (st : Nat → Int32) (Gk : Mem), a + n = en → n < fl → hts ac 32 n a h = some 1 → h ≤ 32 → (∀ b, b ≠ 14 → Gk b = G b) → (∀ j, j < h → Gk 14 j = st j) → ∃ Gz, iter (q_X12_gives_79 x1) fl (Gk, nI h, nI (170 * r + a)) = some (Gz, evS ac wi f n a h st) ∧ ∀ b, b ≠ 14 → Gz b = G b := by
  subst hx
  have e3 : (3 : Int32) * nI r + nI p = nI (3 * r + p) := by rw [show (3 : Int32) = nI 3 from rfl, mulI, nI_add]
  have e170 : ∀ m, (170 : Int32) * nI r + nI m = nI (170 * r + m) := fun m => by rw [show (170 : Int32) = nI 170 from rfl, mulI, nI_add]
  intro n
  induction n with
  | zero =>
    intro fl a h st Gk han hfl hh h32 hoff hst
    have h1 : h = 1 := by
      unfold hts at hh
      cases hh
      rfl
    subst h1
    cases fl with
    | zero => omega
    | succ fl =>
      refine ⟨Gk, ?_, hoff⟩
      show q_X12_gives_79 (nI p) (iter (q_X12_gives_79 (nI p)) fl) (Gk, nI 1, nI (170 * r + a)) = _
      unfold q_X12_gives_79
      show chk (inB ((3 * Gk 0 16) + nI p) 21) (if (170 * Gk 0 16) + (Gk 13 ((3 * Gk 0 16) + nI p).toNatClampNeg) ≤ nI (170 * r + a) then _ else _) = _
      rw [hoff 0 (by decide), hG, e3, chk_t (inB_n (by omega) (by decide)), nI_clamp (by omega), hoff 13 (by decide), hend, e170, if_pos (nI_le (by omega) (by omega))]
      have := hst 0 (by decide)
      show some (Gk, Gk 14 0) = some (Gk, st 0)
      rw [this]
  | succ n ih =>
    intro fl a h st Gk han hfl hh h32 hoff hst
    cases fl with
    | zero => omega
    | succ fl =>
      show ∃ Gz, q_X12_gives_79 (nI p) (iter (q_X12_gives_79 (nI p)) fl) (Gk, nI h, nI (170 * r + a)) = some (Gz, evS ac wi f (n + 1) a h st) ∧ ∀ b, b ≠ 14 → Gz b = G b
      have ih' := ih fl (a + 1)
      generalize iter (q_X12_gives_79 (nI p)) fl = rec at ih' ⊢
      unfold q_X12_gives_79
      show ∃ Gz, chk (inB ((3 * Gk 0 16) + nI p) 21) (if (170 * Gk 0 16) + (Gk 13 ((3 * Gk 0 16) + nI p).toNatClampNeg) ≤ nI (170 * r + a) then _ else _) = some (Gz, evS ac wi f (n + 1) a h st) ∧ _
      have hal : a < ln := by omega
      rw [hoff 0 (by decide), hG, e3, chk_t (inB_n (by omega) (by decide)), nI_clamp (show 3 * r + p < 2 ^ 31 by omega), hoff 13 (by decide), hend, e170, if_neg (nI_ge (by omega) (by omega))]
      have hb : inB (nI (170 * r + a)) 1190 = true := inB_n (by omega) (by decide)
      have hnx : nI (170 * r + a) + 1 = nI (170 * r + (a + 1)) := by rw [nI_1]; rfl
      have g15 : ∀ j, j < 6 → Gk 15 j = f j := fun j hj => by rw [hoff 15 (by decide)]; exact hf j hj
      have h1 := (hcode a hal).1
      have h2 := (hcode a hal).2
      rw [chk_t hb, nI_clamp (show 170 * r + a < 2 ^ 31 by omega), hoff 11 (by decide), hoff 12 (by decide), h1, h2]
      unfold j_X12_gives_271
      rcases hok a hal with ⟨h1, k, hk, hw⟩ | ⟨h2, k, hk, hw⟩ | ⟨h3, hw⟩
      · unfold hts at hh
        rw [if_pos (Or.inl h1)] at hh
        by_cases hlt : h < 32
        rotate_left
        · rw [if_neg hlt] at hh
          cases hh
        rw [if_pos hlt] at hh
        rw [if_pos h1, chk_t hb, chk_t (inB_n (show h < 170 by omega) (by decide)), bnd_e, bnd_e, bnd_e, hnx, nI_1, nI_clamp (show h < 2 ^ 31 by omega)]
        unfold evS
        rw [if_pos h1]
        refine ih' (h + 1) (fun i => if i = h then wi a else st i) _ (by omega) (by omega) hh (by omega) (off_up hoff) ?_
        intro i hi
        by_cases hih : i = h
        · rw [hih, up2_aa, if_pos rfl]
        · rw [up2_an _ _ _ hih, if_neg hih]
          exact hst i (by omega)
      · have hne1 : ¬ ac a = 1 := by rw [h2]; decide
        unfold hts at hh
        rw [if_pos (Or.inr h2)] at hh
        by_cases hlt : h < 32
        rotate_left
        · rw [if_neg hlt] at hh
          cases hh
        rw [if_pos hlt] at hh
        rw [if_neg hne1, if_pos h2, chk_t hb, hw, chk_t (inB_n (show k < 6 by omega) (by decide)), chk_t (inB_n (show h < 170 by omega) (by decide)), bnd_e, bnd_e, bnd_e, hnx, nI_1, nI_clamp (show h < 2 ^ 31 by omega), nI_clamp (show k < 2 ^ 31 by omega), g15 k hk]
        unfold evS
        rw [if_neg hne1, if_pos h2, hw, nI_clamp (show k < 2 ^ 31 by omega)]
        refine ih' (h + 1) (fun i => if i = h then f k else st i) _ (by omega) (by omega) hh (by omega) (off_up hoff) ?_
        intro i hi
        by_cases hih : i = h
        · rw [hih, up2_aa, if_pos rfl]
        · rw [up2_an _ _ _ hih, if_neg hih]
          exact hst i (by omega)
      · by_cases a3 : ac a = 3
        · unfold hts at hh
          rw [if_neg (by rw [a3]; decide), if_pos (Or.inl a3)] at hh
          by_cases hlt : 1 ≤ h
          rotate_left
          · rw [if_neg hlt] at hh
            cases hh
          rw [if_pos hlt] at hh
          have e1 : nI h - 1 = nI (h - 1) := subI (b := 1) hlt
          have hb1 : inB (nI (h - 1)) 170 = true := inB_n (by omega) (by decide)
          unfold evS
          rw [if_neg (show ¬ ac a = 1 by rw [a3]; decide), if_neg (show ¬ ac a = 1 by rw [a3]; decide), if_neg (show ¬ ac a = 2 by rw [a3]; decide), if_neg (show ¬ ac a = 2 by rw [a3]; decide), if_pos a3, if_pos a3, e1, chk_t hb1, nI_clamp (show h - 1 < 2 ^ 31 by omega), hst (h - 1) (by omega)]
          by_cases hs0 : st (h - 1) = 0
          · rw [if_pos hs0, chk_t hb1, bnd_e, bnd_e, hnx, if_pos hs0]
            exact ih' h _ _ (by omega) (by omega) hh (by omega) (off_up hoff) (row_up hst)
          · rw [if_neg hs0, chk_t hb1, bnd_e, bnd_e, hnx, if_neg hs0]
            exact ih' h _ _ (by omega) (by omega) hh (by omega) (off_up hoff) (row_up hst)
        by_cases a4 : ac a = 4
        · unfold hts at hh
          rw [if_neg (by rw [a4]; decide), if_pos (Or.inr a4)] at hh
          by_cases hlt : 1 ≤ h
          rotate_left
          · rw [if_neg hlt] at hh
            cases hh
          rw [if_pos hlt] at hh
          have e1 : nI h - 1 = nI (h - 1) := subI (b := 1) hlt
          have hb1 : inB (nI (h - 1)) 170 = true := inB_n (by omega) (by decide)
          unfold evS
          rw [if_neg (show ¬ ac a = 1 by rw [a4]; decide), if_neg (show ¬ ac a = 1 by rw [a4]; decide), if_neg (show ¬ ac a = 2 by rw [a4]; decide), if_neg (show ¬ ac a = 2 by rw [a4]; decide), if_neg a3, if_neg a3, if_pos a4, if_pos a4, e1, chk_t hb1, chk_t hb1, nI_clamp (show h - 1 < 2 ^ 31 by omega), hst (h - 1) (by omega), bnd_e, bnd_e, hnx]
          exact ih' h _ _ (by omega) (by omega) hh (by omega) (off_up hoff) (row_up hst)
        have na : ¬ (ac a = 1 ∨ ac a = 2) := by
          rcases h3 with h3 | h3 | h3 | h3 | h3 | h3 | h3 | h3 | h3 <;> rw [h3] <;> decide
        unfold hts at hh
        rw [if_neg na, if_neg (fun q => q.elim a3 a4)] at hh
        by_cases hlt : 2 ≤ h
        rotate_left
        · rw [if_neg hlt] at hh
          cases hh
        rw [if_pos hlt] at hh
        have e2 : nI h - 2 = nI (h - 2) := subI (b := 2) hlt
        have e1 : nI h - 1 = nI (h - 1) := subI (b := 1) (by omega)
        have e4 : nI h + -1 = nI (h - 1) := by
          rw [← e1]
          exact (Int32.sub_eq_add_neg _ _).symm
        have hb1 : inB (nI (h - 1)) 170 = true := inB_n (by omega) (by decide)
        have hb2 : inB (nI (h - 2)) 170 = true := inB_n (by omega) (by decide)
        unfold evS
        rw [if_neg (fun q => na (Or.inl q) : ¬ ac a = 1), if_neg (fun q => na (Or.inl q) : ¬ ac a = 1), if_neg (fun q => na (Or.inr q) : ¬ ac a = 2), if_neg (fun q => na (Or.inr q) : ¬ ac a = 2), if_neg a3, if_neg a3, if_neg a4, if_neg a4, chk_t hb, e2, e1, e4, chk_t hb2, chk_t hb1, chk_t hb2, bnd_e, bnd_e, bnd_e, hnx, nI_clamp (show h - 1 < 2 ^ 31 by omega), nI_clamp (show h - 2 < 2 ^ 31 by omega), hst (h - 1) (by omega), hst (h - 2) (by omega)]
        exact ih' (h - 1) _ _ (by omega) (by omega) hh (by omega) (off_up hoff) (row_up (fun i hi => hst i (by omega)))
def bgV (en : Nat → Nat) : Nat → Nat
  | 0 => 0
  | p + 1 => en p
noncomputable def evV (ac wi : Nat → Int32) (en : Nat → Nat) (p : Nat) (f : Nat → Int32) : Int32 := evS ac wi f (en p - bgV en p) (bgV en p) 0 (fun _ => 0)
theorem txOK_p {ac wi : Nat → Int32} {en : Nat → Nat} (h : txOK ac wi en) {p : Nat} (hp : p < 3) : bgV en p ≤ en p ∧ en p ≤ en 2 ∧ hts ac 32 (en p - bgV en p) (bgV en p) 0 = some 1 := by
  obtain ⟨h0, h1, h2, h3, h4, h5, h6⟩ := h
  rcases (show p = 0 ∨ p = 1 ∨ p = 2 by omega) with rfl | rfl | rfl
  · exact ⟨Nat.zero_le _, by omega, h4⟩
  · exact ⟨h0, h1, h5⟩
  · exact ⟨h1, Nat.le_refl _, h6⟩
theorem vV11 {ac wi f : Nat → Int32} {en : Nat → Nat} {G : Mem} {S : Nat → Nat} {r p : Nat} (hok : txOK ac wi en) (hC : txC r G S ac wi en) (hp : p < 3) (hf : ∀ j, j < 6 → G 129 j = f j) : ∃ Gz, f_X9_valueOf G S (2000 + 4 * r) (nI p) = some (Gz, evV ac wi en p f) ∧ ∀ b, b ≠ 2000 + 4 * r + 3 → Gz b = G b := by
  obtain ⟨c1, c2, c3⟩ := hC
  obtain ⟨b1, b2, b3⟩ := txOK_p hok hp
  have h160 := hok.2.2.1
  have key := val11 (ac := ac) (wi := wi) (f := f) (G := G) (S := S) (e := 2000 + 4 * r) (ln := en 2) (x1 := nI p) h160 c1 c2 hok.2.2.2.1 hf (by omega) (en p - bgV en p) fuel (bgV en p) 0 (fun _ => 0) G (by omega) (by unfold fuel; omega) b3 (by decide) (fun _ _ => rfl) (fun j hj => absurd hj (by omega))
  rw [show bgV en p + (en p - bgV en p) = en p by omega] at key
  unfold f_X9_valueOf
  rcases rng (nI p) (nI 3) (nI 3 - 1) 3 (by decide) rfl rfl with ⟨j, hj, hpj, ho, -⟩ | ⟨ho, -, hne⟩
  rotate_left
  · exact absurd rfl (hne p hp)
  rw [ho, if_pos rfl]
  by_cases h0 : p = 0
  · subst h0
    rw [if_pos (show nI 0 = (0 : Int32) from rfl), chk_t (inB_n hp (by decide)), bnd_e, nI_clamp (by decide), c3 0 (by decide)]
    exact key
  · have e1 : nI p - 1 = nI (p - 1) := subI (b := 1) (by omega)
    rw [if_neg (nI_ne0 (by omega) (by omega)), e1, chk_t (inB_n (show p - 1 < 3 by omega) (by decide)), bnd_e, chk_t (inB_n hp (by decide)), bnd_e, nI_clamp (show p < 2 ^ 31 by omega), nI_clamp (show p - 1 < 2 ^ 31 by omega), c3 p hp, c3 (p - 1) (by omega)]
    have : bgV en p = en (p - 1) := by
      cases p with
      | zero => exact absurd rfl h0
      | succ q => rfl
    rw [← this]
    exact key
theorem ev0_0 (f : Nat → Int32) : evV tx0a tx0w tx0e 0 f = 0 := rfl
theorem ev0_1 (f : Nat → Int32) : evV tx0a tx0w tx0e 1 f = if f 0 ≤ 8 then 0 else 1 := rfl
theorem ev0_2 (f : Nat → Int32) : evV tx0a tx0w tx0e 2 f = 1 := rfl
theorem vV12 {ac wi f : Nat → Int32} {en : Nat → Nat} {G : Mem} {r p : Nat} (hr : r < 6) (hG : G 0 16 = nI r) (hok : txOK ac wi en) (hC : txR r G ac wi en) (hp : p < 3) (hf : ∀ j, j < 6 → G 15 j = f j) : ∃ Gz, f_X12_gives G (nI p) = some (Gz, evV ac wi en p f) ∧ ∀ b, b ≠ 14 → Gz b = G b := by
  unfold f_X12_gives
  rw [hG]
  by_cases h0 : r = 0
  · subst h0
    unfold txR at hC
    rw [if_pos rfl] at hC
    obtain ⟨rfl, rfl, rfl⟩ := hC
    rw [if_pos (show nI 0 = (0 : Int32) from rfl)]
    rcases (show p = 0 ∨ p = 1 ∨ p = 2 by omega) with rfl | rfl | rfl
    · exact ⟨G, by rw [if_pos (show nI 0 = (0 : Int32) from rfl), ev0_0], fun _ _ => rfl⟩
    · refine ⟨G, ?_, fun _ _ => rfl⟩
      rw [if_neg (show ¬ nI 1 = (0 : Int32) by decide), if_neg (show ¬ nI 1 = (2 : Int32) by decide), ev0_1, ← hf 0 (by decide)]
      show (if G 15 0 ≤ 8 then some (G, 0) else some (G, 1)) = _
      by_cases h8 : G 15 0 ≤ 8
      · rw [if_pos h8, if_pos h8]
      · rw [if_neg h8, if_neg h8]
    · exact ⟨G, by rw [if_neg (show ¬ nI 2 = (0 : Int32) by decide), if_pos (show nI 2 = (2 : Int32) from rfl), ev0_2], fun _ _ => rfl⟩
  · unfold txR at hC
    rw [if_neg h0] at hC
    obtain ⟨c1, c2⟩ := hC
    obtain ⟨b1, b2, b3⟩ := txOK_p hok hp
    have h160 := hok.2.2.1
    have key := val12 (ac := ac) (wi := wi) (f := f) (G := G) (r := r) (ln := en 2) (p := p) (en := en p) (x1 := nI p) hr hp rfl h160 hG c1 (c2 p hp) hok.2.2.2.1 hf b2 (en p - bgV en p) fuel (bgV en p) 0 (fun _ => 0) G (by omega) (by unfold fuel; omega) b3 (by decide) (fun _ _ => rfl) (fun j hj => absurd hj (by omega))
    rw [if_neg (nI_ne0 (by omega) (by omega))]
    have e170 : ∀ m, (170 : Int32) * nI r + nI m = nI (170 * r + m) := fun m => by rw [show (170 : Int32) = nI 170 from rfl, mulI, nI_add]
    by_cases hp0 : p = 0
    · subst hp0
      rw [if_pos (show nI 0 = (0 : Int32) from rfl), bnd_e]
      rw [show (170 : Int32) * nI r + 0 = nI (170 * r + 0) from e170 0]
      exact key
    · have e3 : (3 : Int32) * nI r + nI p - 1 = nI (3 * r + (p - 1)) := by
        rw [show (3 : Int32) = nI 3 from rfl, mulI, nI_add]
        have := subI (a := 3 * r + p) (b := 1) (by omega)
        rw [show nI (3 * r + (p - 1)) = nI (3 * r + p - 1) by congr 1; omega]
        exact this
      rw [if_neg (nI_ne0 (by omega) (by omega)), e3, chk_t (inB_n (by omega) (by decide)), bnd_e, bnd_e, nI_clamp (by omega), c2 (p - 1) (by omega), e170]
      have : bgV en p = en (p - 1) := by
        cases p with
        | zero => exact absurd rfl hp0
        | succ q => rfl
      rw [← this]
      exact key
