-- a text's value
noncomputable def evS (ac wi : Nat → Int32) (f : Nat → Int32) : Nat → Nat → Nat → (Nat → Int32) → Int32
  | 0, _, _, st => st 0
  | n + 1, a, h, st => if ac a = 1 then evS ac wi f n (a + 1) (h + 1) (fun i => if i = h then wi a else st i) else if ac a = 2 then evS ac wi f n (a + 1) (h + 1) (fun i => if i = h then f (wi a).toNatClampNeg else st i) else if ac a = 3 then evS ac wi f n (a + 1) h (fun i => if i = h - 1 then (if st (h - 1) = 0 then 1 else 0) else st i) else if ac a = 4 then evS ac wi f n (a + 1) h (fun i => if i = h - 1 then -(st (h - 1)) else st i) else evS ac wi f n (a + 1) (h - 1) (fun i => if i = h - 2 then f_X12_twoOf (ac a) (st (h - 2)) (st (h - 1)) else st i)
theorem em_c {c k : Nat} (hc : c < 64) (hk : k < 10000) : nI (c + 64 * k) - nI (c + 64 * k) / 64 * 64 = nI c ∧ nI (c + 64 * k) / 64 = nI k := by
  have h1 := pk_rem (a := c + 64 * k) (d := 64) (by omega) (by decide) (by decide)
  have h2 := pk_div (a := c + 64 * k) (d := 64) (by omega) (by decide) (by decide)
  rw [show (c + 64 * k) % 64 = c by omega] at h1
  rw [show (c + 64 * k) / 64 = k by omega] at h2
  exact ⟨h1, h2⟩
theorem jo3 (x y : Int32) : f_X9_joined 3 x y = f_X12_twoOf 5 x y := rfl
theorem jo4 (x y : Int32) : f_X9_joined 4 x y = f_X12_twoOf 6 x y := rfl
theorem row_up {G : Mem} {e j : Nat} {v : Int32} {h : Nat} {st : Nat → Int32} (hr : ∀ i, i < h → G e i = st i) : ∀ i, i < h → up2 G e j v e i = if i = j then v else st i := by
  intro i hi
  rw [up2_a]
  by_cases hij : i = j
  · show (if i = j then v else G e i) = _
    rw [if_pos hij, if_pos hij]
  · show (if i = j then v else G e i) = _
    rw [if_neg hij, if_neg hij]
    exact hr i hi
theorem off_up {G G0 : Mem} {e j : Nat} {v : Int32} (h : ∀ b, b ≠ e → G b = G0 b) : ∀ b, b ≠ e → up2 G e j v b = G0 b := fun b hb => by rw [up2_n _ _ _ hb]; exact h b hb
theorem val11 {ac wi f : Nat → Int32} {G : Mem} {S : Nat → Nat} {e ln : Nat} {x1 : Int32} (hln : ln ≤ 160) (hS : S (e + 1) = ln) (hcode : ∀ k, k < ln → G (e + 1) k = enc (ac k) (wi k)) (hok : ∀ k, k < ln → okStep (ac k) (wi k)) (hf : ∀ j, j < 6 → G 129 j = f j) (he : e + 3 ≠ 129) : ∀ (n fl a h : Nat) (st : Nat → Int32) (Gk : Mem), a + n ≤ ln → n < fl → hts ac 32 n a h = some 1 → h ≤ 32 → (∀ b, b ≠ e + 3 → Gk b = G b) → (∀ j, j < h → Gk (e + 3) j = st j) → ∃ Gz, iter (q_X9_valueOf_45 S e x1) fl (Gk, nI (a + n), nI h, nI a) = some (Gz, evS ac wi f n a h st) ∧ ∀ b, b ≠ e + 3 → Gz b = G b := by
  intro n
  induction n with
  | zero =>
    intro fl a h st Gk han hfl hh h32 hoff hst
    have h1 : h = 1 := by
      unfold hts at hh
      cases hh
      rfl
    subst h1
    cases fl with
    | zero => omega
    | succ fl =>
      refine ⟨Gk, ?_, hoff⟩
      show q_X9_valueOf_45 S e x1 (iter (q_X9_valueOf_45 S e x1) fl) (Gk, nI (a + 0), nI 1, nI a) = _
      unfold q_X9_valueOf_45
      show (if nI (a + 0) ≤ nI a then _ else _) = _
      rw [if_pos (nI_le (by omega) (by omega))]
      have := hst 0 (by decide)
      show some (Gk, Gk (e + 3) 0) = some (Gk, st 0)
      rw [this]
  | succ n ih =>
    intro fl a h st Gk han hfl hh h32 hoff hst
    cases fl with
    | zero => omega
    | succ fl =>
      show ∃ Gz, q_X9_valueOf_45 S e x1 (iter (q_X9_valueOf_45 S e x1) fl) (Gk, nI (a + (n + 1)), nI h, nI a) = some (Gz, evS ac wi f (n + 1) a h st) ∧ ∀ b, b ≠ e + 3 → Gz b = G b
      have ih' := ih fl (a + 1)
      rw [show a + 1 + n = a + (n + 1) by omega] at ih'
      generalize iter (q_X9_valueOf_45 S e x1) fl = rec at ih' ⊢
      unfold q_X9_valueOf_45
      show ∃ Gz, (if nI (a + (n + 1)) ≤ nI a then _ else _) = some (Gz, evS ac wi f (n + 1) a h st) ∧ _
      have hal : a < ln := by omega
      rw [if_neg (nI_ge (by omega) (by omega)), hS, if_neg (nI_ge hal (by omega)), chk_t (inB_n hal (by omega)), nI_clamp (show a < 2 ^ 31 by omega), hoff (e + 1) (by omega), hcode a hal]
      rw [bnd_e, chk_t (inB_n hal (by omega)), bnd_e]
      have g129 : ∀ j, j < 6 → Gk 129 j = f j := fun j hj => by rw [hoff 129 (by omega)]; exact hf j hj
      rcases hok a hal with ⟨h1, k, hk, hw⟩ | ⟨h2, k, hk, hw⟩ | ⟨h3, hw⟩
      · -- a number
        have hen : enc (ac a) (wi a) = nI (7 + 64 * k) := by
          unfold enc
          rw [if_pos h1, hw, show (64 : Int32) = nI 64 from rfl, mulI, show (7 : Int32) = nI 7 from rfl, nI_add]
        obtain ⟨d1, d2⟩ := em_c (c := 7) (k := k) (by decide) (by omega)
        rw [hen, d1, d2]
        unfold hts at hh
        rw [if_pos (Or.inl h1)] at hh
        by_cases hlt : h < 32
        rotate_left
        · rw [if_neg hlt] at hh
          cases hh
        rw [if_pos hlt] at hh
        rw [if_pos (show nI 7 = (7 : Int32) from rfl), if_neg (show ¬ (32 : Int32) ≤ nI h from nI_ge (b := 32) hlt (by decide)), chk_t (inB_n hlt (by decide)), bnd_e, bnd_e, nI_clamp (show h < 2 ^ 31 by omega), nI_1]
        unfold j_X9_valueOf_273
        rw [bnd_e, nI_1]
        unfold evS
        rw [if_pos h1, hw]
        refine ih' (h + 1) (fun i => if i = h then nI k else st i) _ (by omega) (by omega) hh (by omega) (off_up hoff) ?_
        intro i hi
        by_cases hih : i = h
        · rw [hih, up2_aa, if_pos rfl]
        · rw [up2_an _ _ _ hih, if_neg hih]
          exact hst i (by omega)
      · -- a name
        have hne1 : ¬ ac a = 1 := by rw [h2]; decide
        have hen : enc (ac a) (wi a) = nI (6 + 64 * k) := by
          unfold enc
          rw [if_neg hne1, if_pos h2, hw, show (64 : Int32) = nI 64 from rfl, mulI, show (6 : Int32) = nI 6 from rfl, nI_add]
        obtain ⟨d1, d2⟩ := em_c (c := 6) (k := k) (by decide) (by omega)
        rw [hen, d1, d2]
        unfold hts at hh
        rw [if_pos (Or.inr h2)] at hh
        by_cases hlt : h < 32
        rotate_left
        · rw [if_neg hlt] at hh
          cases hh
        rw [if_pos hlt] at hh
        rw [if_neg (show ¬ nI 6 = (7 : Int32) by decide)]
        unfold j_X9_valueOf_115
        rw [if_pos (show nI 6 = (6 : Int32) from rfl), if_neg (show ¬ (32 : Int32) ≤ nI h from nI_ge (b := 32) hlt (by decide)), if_neg (nI_ge hk (by decide)), chk_t (inB_n hk (by decide)), chk_t (inB_n hlt (by decide)), bnd_e, bnd_e, nI_clamp (show h < 2 ^ 31 by omega), nI_1, nI_clamp (show k < 2 ^ 31 by omega), g129 k hk]
        unfold j_X9_valueOf_273
        rw [bnd_e, nI_1]
        unfold evS
        rw [if_neg hne1, if_pos h2, hw, nI_clamp (show k < 2 ^ 31 by omega)]
        refine ih' (h + 1) (fun i => if i = h then f k else st i) _ (by omega) (by omega) hh (by omega) (off_up hoff) ?_
        intro i hi
        by_cases hih : i = h
        · rw [hih, up2_aa, if_pos rfl]
        · rw [up2_an _ _ _ hih, if_neg hih]
          exact hst i (by omega)
      · -- what joins
        have un : ∀ {c : Nat} (hc : c < 64), enc (ac a) (wi a) = nI c → nI c - nI c / 64 * 64 = nI c := by
          intro c hc _
          have := (em_c (c := c) (k := 0) hc (by decide)).1
          rw [Nat.mul_zero, Nat.add_zero] at this
          exact this
        have two : ∀ {c : Nat} (hc : c < 64), enc (ac a) (wi a) = nI c → ¬ nI c = 7 → ¬ nI c = 6 → ¬ nI c = 5 → ¬ nI c = 8 → ¬ (ac a = 1 ∨ ac a = 2) → ¬ (ac a = 3 ∨ ac a = 4) → (∀ x y, f_X9_joined (nI c) x y = f_X12_twoOf (ac a) x y) → ∃ Gz, (if enc (ac a) (wi a) - enc (ac a) (wi a) / 64 * 64 = 7 then (if 32 ≤ nI h then j_X9_valueOf_115 S e x1 rec Gk (nI (a + (n + 1))) (nI h) (nI a) (enc (ac a) (wi a) - enc (ac a) (wi a) / 64 * 64) (enc (ac a) (wi a) / 64) else chk (inB (nI h) 32) (bnd (up2 Gk (e + 3) (nI h).toNatClampNeg (enc (ac a) (wi a) / 64)) fun G43 => bnd (nI h + 1) fun x5_44 => j_X9_valueOf_273 S e x1 rec G43 (nI (a + (n + 1))) x5_44 (nI a))) else j_X9_valueOf_115 S e x1 rec Gk (nI (a + (n + 1))) (nI h) (nI a) (enc (ac a) (wi a) - enc (ac a) (wi a) / 64 * 64) (enc (ac a) (wi a) / 64)) = some (Gz, evS ac wi f (n + 1) a h st) ∧ ∀ b, b ≠ e + 3 → Gz b = G b := by
          intro c hc hen n7 n6 n5 n8 na nb hj
          rw [hen, un hc hen]
          unfold hts at hh
          rw [if_neg na, if_neg nb] at hh
          by_cases hlt : 2 ≤ h
          rotate_left
          · rw [if_neg hlt] at hh
            cases hh
          rw [if_pos hlt] at hh
          rw [if_neg n7]
          unfold j_X9_valueOf_115
          rw [if_neg n6]
          unfold j_X9_valueOf_153
          rw [if_neg n5]
          unfold j_X9_valueOf_197
          rw [if_neg n8]
          unfold j_X9_valueOf_232
          have e2 : nI h - 2 = nI (h - 2) := subI (b := 2) hlt
          have e1 : nI h - 1 = nI (h - 1) := subI (b := 1) (by omega)
          have e3 : nI h + -1 = nI (h - 1) := by
            rw [← e1]
            exact (Int32.sub_eq_add_neg _ _).symm
          rw [if_neg (show ¬ nI h < (2 : Int32) from nI_nlt (b := 2) hlt (by omega)), e2, e1, e3, chk_t (inB_n (show h - 2 < 32 by omega) (by decide)), chk_t (inB_n (show h - 1 < 32 by omega) (by decide)), chk_t (inB_n (show h - 2 < 32 by omega) (by decide)), bnd_e, bnd_e, nI_clamp (show h - 2 < 2 ^ 31 by omega), nI_clamp (show h - 1 < 2 ^ 31 by omega), hj, hst (h - 2) (by omega), hst (h - 1) (by omega)]
          unfold j_X9_valueOf_273
          rw [bnd_e, nI_1]
          unfold evS
          rw [if_neg (fun q => na (Or.inl q)), if_neg (fun q => na (Or.inr q)), if_neg (fun q => nb (Or.inl q)), if_neg (fun q => nb (Or.inr q))]
          exact ih' (h - 1) _ _ (by omega) (by omega) hh (by omega) (off_up hoff) (row_up (fun i hi => hst i (by omega)))
        rcases h3 with h3 | h3 | h3 | h3 | h3 | h3 | h3 | h3 | h3
        · have hen : enc (ac a) (wi a) = nI 5 := by rw [h3, hw]; rfl
          rw [hen, un (by decide) hen]
          unfold hts at hh
          rw [if_neg (by rw [h3]; decide), if_pos (Or.inl h3)] at hh
          by_cases hlt : 1 ≤ h
          rotate_left
          · rw [if_neg hlt] at hh
            cases hh
          rw [if_pos hlt] at hh
          rw [if_neg (show ¬ nI 5 = (7 : Int32) by decide)]
          unfold j_X9_valueOf_115
          rw [if_neg (show ¬ nI 5 = (6 : Int32) by decide)]
          unfold j_X9_valueOf_153
          have e1 : nI h - 1 = nI (h - 1) := subI (b := 1) hlt
          rw [if_pos (show nI 5 = (5 : Int32) from rfl), if_neg (show ¬ nI h < (1 : Int32) from nI_nlt (b := 1) hlt (by omega)), e1, chk_t (inB_n (show h - 1 < 32 by omega) (by decide)), nI_clamp (show h - 1 < 2 ^ 31 by omega), hst (h - 1) (by omega)]
          unfold evS
          rw [if_neg (show ¬ ac a = 1 by rw [h3]; decide), if_neg (show ¬ ac a = 2 by rw [h3]; decide), if_pos h3]
          by_cases hs0 : st (h - 1) = 0
          · rw [if_pos hs0, chk_t (inB_n (show h - 1 < 32 by omega) (by decide)), bnd_e, if_pos hs0]
            unfold j_X9_valueOf_273
            rw [bnd_e, nI_1]
            exact ih' h _ _ (by omega) (by omega) hh (by omega) (off_up hoff) (row_up hst)
          · rw [if_neg hs0, chk_t (inB_n (show h - 1 < 32 by omega) (by decide)), bnd_e, if_neg hs0]
            unfold j_X9_valueOf_273
            rw [bnd_e, nI_1]
            exact ih' h _ _ (by omega) (by omega) hh (by omega) (off_up hoff) (row_up hst)
        · have hen : enc (ac a) (wi a) = nI 8 := by rw [h3, hw]; rfl
          rw [hen, un (by decide) hen]
          unfold hts at hh
          rw [if_neg (by rw [h3]; decide), if_pos (Or.inr h3)] at hh
          by_cases hlt : 1 ≤ h
          rotate_left
          · rw [if_neg hlt] at hh
            cases hh
          rw [if_pos hlt] at hh
          rw [if_neg (show ¬ nI 8 = (7 : Int32) by decide)]
          unfold j_X9_valueOf_115
          rw [if_neg (show ¬ nI 8 = (6 : Int32) by decide)]
          unfold j_X9_valueOf_153
          rw [if_neg (show ¬ nI 8 = (5 : Int32) by decide)]
          unfold j_X9_valueOf_197
          have e1 : nI h - 1 = nI (h - 1) := subI (b := 1) hlt
          rw [if_pos (show nI 8 = (8 : Int32) from rfl), if_neg (show ¬ nI h < (1 : Int32) from nI_nlt (b := 1) hlt (by omega)), e1, chk_t (inB_n (show h - 1 < 32 by omega) (by decide)), chk_t (inB_n (show h - 1 < 32 by omega) (by decide)), bnd_e, nI_clamp (show h - 1 < 2 ^ 31 by omega), hst (h - 1) (by omega)]
          unfold evS
          rw [if_neg (show ¬ ac a = 1 by rw [h3]; decide), if_neg (show ¬ ac a = 2 by rw [h3]; decide), if_neg (show ¬ ac a = 3 by rw [h3]; decide), if_pos h3]
          unfold j_X9_valueOf_273
          rw [bnd_e, nI_1]
          exact ih' h _ _ (by omega) (by omega) hh (by omega) (off_up hoff) (row_up hst)
        · exact two (c := 3) (by decide) (by rw [h3, hw]; rfl) (by decide) (by decide) (by decide) (by decide) (by rw [h3]; decide) (by rw [h3]; decide) (by rw [h3]; exact jo3)
        · exact two (c := 4) (by decide) (by rw [h3, hw]; rfl) (by decide) (by decide) (by decide) (by decide) (by rw [h3]; decide) (by rw [h3]; decide) (by rw [h3]; exact jo4)
        · exact two (c := 60) (by decide) (by rw [h3, hw]; rfl) (by decide) (by decide) (by decide) (by decide) (by rw [h3]; decide) (by rw [h3]; decide) (by rw [h3]; exact fun _ _ => rfl)
        · exact two (c := 61) (by decide) (by rw [h3, hw]; rfl) (by decide) (by decide) (by decide) (by decide) (by rw [h3]; decide) (by rw [h3]; decide) (by rw [h3]; exact fun _ _ => rfl)
        · exact two (c := 43) (by decide) (by rw [h3, hw]; rfl) (by decide) (by decide) (by decide) (by decide) (by rw [h3]; decide) (by rw [h3]; decide) (by rw [h3]; exact fun _ _ => rfl)
        · exact two (c := 45) (by decide) (by rw [h3, hw]; rfl) (by decide) (by decide) (by decide) (by decide) (by rw [h3]; decide) (by rw [h3]; decide) (by rw [h3]; exact fun _ _ => rfl)
        · exact two (c := 42) (by decide) (by rw [h3, hw]; rfl) (by decide) (by decide) (by decide) (by decide) (by rw [h3]; decide) (by rw [h3]; decide) (by rw [h3]; exact fun _ _ => rfl)
