-- one way sung step by step: the class's side
theorem isPlan_eq (x : Int32) : f_X11_isPlan x = f_X12_in x 2 5 := by
  unfold f_X11_isPlan f_X12_in
  by_cases h : x < 2
  · rw [if_pos h, if_pos h]
  · rw [if_neg h, if_neg h]
    have : (6 ≤ x) ↔ (5 < x) := by
      rw [Int32.le_iff_toInt_le, Int32.lt_iff_toInt_lt, show (6 : Int32).toInt = 6 from rfl, show (5 : Int32).toInt = 5 from rfl]
      omega
    by_cases h2 : 6 ≤ x
    · rw [if_pos h2, if_pos (this.mp h2)]
    · rw [if_neg h2, if_neg (fun q => h2 (this.mpr q))]
theorem cnt2 (c : Nat → Bool) (i : Nat) : ∀ n, cntB (fun o => (decide (o + 1 = i) || decide (o = i + 1)) && c o) n = (if 0 < i ∧ i - 1 < n ∧ c (i - 1) = true then 1 else 0) + (if i + 1 < n ∧ c (i + 1) = true then 1 else 0) := by
  intro n
  induction n with
  | zero =>
    rw [if_neg (by omega), if_neg (by omega)]
    rfl
  | succ n ih =>
    by_cases h1 : n + 1 = i
    · have e : i - 1 = n := by omega
      have ih0 : cntB (fun o => (decide (o + 1 = i) || decide (o = i + 1)) && c o) n = 0 := by
        rw [ih, if_neg (by omega), if_neg (by omega)]
      cases hc : c n with
      | true =>
        rw [cntB_t (by simp [h1, hc]), ih0, e, if_pos ⟨by omega, by omega, hc⟩, if_neg (by omega)]
      | false =>
        rw [cntB_f (by simp [hc]), ih0, e, if_neg (fun q => by rw [hc] at q; exact absurd q.2.2 (by decide)), if_neg (by omega)]
    · by_cases h2 : n = i + 1
      · have ih0 := ih
        rw [if_neg (show ¬ (i + 1 < n ∧ c (i + 1) = true) by omega)] at ih0
        have e1 : (0 < i ∧ i - 1 < n ∧ c (i - 1) = true) ↔ (0 < i ∧ i - 1 < n + 1 ∧ c (i - 1) = true) := by
          constructor <;> rintro ⟨a, b, d⟩ <;> exact ⟨a, by omega, d⟩
        cases hc : c n with
        | true =>
          rw [cntB_t (by simp [h2]; rw [← h2]; exact hc), ih0, ← h2, if_pos (show n < n + 1 ∧ c n = true from ⟨by omega, hc⟩)]
          by_cases q : 0 < i ∧ i - 1 < n ∧ c (i - 1) = true
          · rw [if_pos q, if_pos (e1.mp q)]
          · rw [if_neg q, if_neg (fun z => q (e1.mpr z))]
        | false =>
          rw [cntB_f (by simp [hc]), ih0, ← h2, if_neg (show ¬ (n < n + 1 ∧ c n = true) from fun q => by rw [hc] at q; exact absurd q.2 (by decide))]
          by_cases q : 0 < i ∧ i - 1 < n ∧ c (i - 1) = true
          · rw [if_pos q, if_pos (e1.mp q)]
          · rw [if_neg q, if_neg (fun z => q (e1.mpr z))]
      · rw [cntB_f (by simp [h1, h2]), ih]
        have e1 : (0 < i ∧ i - 1 < n ∧ c (i - 1) = true) ↔ (0 < i ∧ i - 1 < n + 1 ∧ c (i - 1) = true) := by
          constructor <;> rintro ⟨a, b, d⟩ <;> exact ⟨a, by omega, d⟩
        have e2 : (i + 1 < n ∧ c (i + 1) = true) ↔ (i + 1 < n + 1 ∧ c (i + 1) = true) := by
          constructor <;> rintro ⟨a, b⟩ <;> exact ⟨by omega, b⟩
        congr 1
        · by_cases q : 0 < i ∧ i - 1 < n ∧ c (i - 1) = true
          · rw [if_pos q, if_pos (e1.mp q)]
          · rw [if_neg q, if_neg (fun z => q (e1.mpr z))]
        · by_cases q : i + 1 < n ∧ c (i + 1) = true
          · rw [if_pos q, if_pos (e2.mp q)]
          · rw [if_neg q, if_neg (fun z => q (e2.mpr z))]
def scC (b : Nat) : Prop := b = 128 ∨ b = 129 ∨ b = 130 ∨ b = 131 ∨ b = 132 ∨ b = 135 ∨ (2000 ≤ b ∧ b % 4 = 3)
/-- what the class's base holds of what the spec speaks of -/
def CxC (C : Mem) (L : MemL) (O : MemO) (S : Nat → Nat) (B : Mem) (ev : Nat → (Nat → Int32) → Int32) (w r : Nat) (pl : Nat → Nat → Bool) (n km ls lk : Nat) : Prop := n ≤ 10 ∧ w < 7 ∧ C 128 10 = nI w ∧ C 128 11 = nI n ∧ ((C 128 14 = nI ls ∧ C 128 15 = nI lk ∧ ls < 10 ∧ lk < 48) ∨ (C 128 14 = -1 ∧ n ≤ ls)) ∧ (∀ i, i < n → O 113 i = some (1000 + i) ∧ S (1000 + i) = kcl (B 5 i) ∧ C (1000 + i) 0 = B 7 i ∧ C (1000 + i) 1 = B 9 i ∧ C (1000 + i) 2 = B 8 i ∧ rgB (B 5 i) 6 ∧ rgC (B 9 i) 1 9 ∧ C 106 i = B 6 i ∧ rgB (B 6 i) 4) ∧ (∀ k, k < 48 → C 103 k = B 2 k) ∧ (∀ v, v < 4 → C 105 v = B 4 v) ∧ (∀ v, v < 4 → C 134 v = msk (fun i => decide (B 6 i = nI v)) n) ∧ (O 128 12 = some (2000 + 4 * r) ∧ txE S (2000 + 4 * r) = true ∧ ∀ p, p < 3 → ∀ (G : Mem) (f : Nat → Int32), G (2000 + 4 * r + 1) = C (2000 + 4 * r + 1) → G (2000 + 4 * r + 2) = C (2000 + 4 * r + 2) → (∀ j, j < 6 → G 129 j = f j) → ∃ Gz, f_X9_valueOf G S (2000 + 4 * r) (nI p) = some (Gz, ev p f) ∧ ∀ b, b ≠ 2000 + 4 * r + 3 → Gz b = G b) ∧ ((w ≠ 0 ∧ w ≠ 6) → km ≤ 48) ∧ (¬ f_X12_in (nI w) 2 5 = 0 → ∀ i k, i < n → k < km → (lg_cmp (((L 133 i) >>> ((nI k).toInt64 &&& 63)) - ((L 133 i) >>> ((nI k).toInt64 &&& 63)) / 2 * 2) 1 = 0 ↔ pl i k = true)) ∧ km ≤ 1000
/-- what the rows of a run hold ahead of step k -/
def CMem (C : Mem) (n k ls lk : Nat) (st : Nat → Sg) (th : Nat → Int32) (G : Mem) : Prop := (∀ b, ¬ scC b → G b = C b) ∧ (∀ j, j ≠ 13 → G 128 j = C 128 j) ∧ (∀ i, i < n → ¬ (i = ls ∧ lk < k) → G 130 i = (st i).1 ∧ G 131 i = (st i).2.1 ∧ G 132 i = (st i).2.2.1) ∧ G 128 13 = msk (fun i => (st i).2.2.2) n ∧ ∀ v, v < 4 → G 135 v = th v
def stOK (n : Nat) (st : Nat → Sg) : Prop := ∀ i, i < n → rgB (st i).2.1 19 ∧ (¬ (st i).2.1 = 0 → (st i).1 = 0)
theorem stOK_0 {n : Nat} : stOK n (fun _ => (0, 0, 0, true)) := fun i _ => ⟨⟨0, by decide, rfl⟩, fun _ => rfl⟩
theorem stOK_s {B : Mem} {ev : Nat → (Nat → Int32) → Int32} {way : Int32} {lo : Nat → Int32} {pl : Nat → Nat → Bool} {n ls lk k : Nat} {st : Nat → Sg} (htk : ∀ i, i < n → rgB (B 5 i) 6 ∧ rgC (B 9 i) 1 9) (h : stOK n st) : stOK n (stepS B ev way lo pl n ls lk k st) := by
  intro i hi
  unfold stepS oneS
  by_cases hl : decide (i = ls ∧ lk ≤ k) = true
  · rw [if_pos hl]
    exact ⟨⟨0, by decide, rfl⟩, fun _ => rfl⟩
  rw [if_neg hl]
  by_cases h0 : (st i).2.1 = 0
  · rw [if_pos h0]
    by_cases hb : begS B ev way lo pl n k i st = true
    · rw [if_pos hb]
      obtain ⟨m, m1, m2, m3⟩ := tk_rg (htk i hi).1 (htk i hi).2 (o := (st i).2.2.1)
      refine ⟨⟨m - 1, by omega, ?_⟩, fun _ => rfl⟩
      show tkS (B 5 i) (B 9 i) (st i).2.2.1 - 1 = nI (m - 1)
      rw [m3]
      exact subI (b := 1) m1
    · rw [if_neg hb]
      exact ⟨⟨0, by decide, rfl⟩, fun q => absurd rfl q⟩
  · rw [if_neg h0]
    obtain ⟨⟨m, m1, m2⟩, -⟩ := h i hi
    refine ⟨⟨m - 1, by omega, ?_⟩, fun _ => rfl⟩
    show (st i).2.1 - 1 = nI (m - 1)
    rw [m2] at h0 ⊢
    exact subI (b := 1) (Nat.pos_of_ne_zero (fun q => h0 (by rw [q]; rfl)))
theorem truth_b2 (b : Bool) : f_X11_truth (b2 b) = b2 b := by cases b <;> rfl
theorem sil11 {G : Mem} {n i : Nat} {b : Nat → Bool} (hn : n ≤ 10) (h11 : G 128 11 = nI n) (h13 : G 128 13 = msk b n) (hi : i < n) : f_X1_isSilent G (nI i) = b2 (!(b i)) := by
  unfold f_X1_isSilent
  rw [h11, h13]
  rcases rng (nI i) (nI n) (nI n - 1) n (by omega) rfl rfl with ⟨j, hj, hij, ho, -⟩ | ⟨ho, -, hne⟩
  · rw [ho, if_pos rfl]
    have hp := bit_par (b := b) hn hi
    cases hb : b i with
    | false => rw [if_pos (hp.mpr hb)]; rfl
    | true => rw [if_neg (fun q => by have := hp.mp q; rw [hb] at this; cases this)]; rfl
  · exact absurd rfl (hne i hi)
theorem silP11 {G : Mem} {n i : Nat} {b : Nat → Bool} (hn : n ≤ 10) (h11 : G 128 11 = nI n) (h13 : G 128 13 = msk b n) (hi : i < n) : f_X11_truth (f_X1_isSilent G (nI i - 1)) + f_X11_truth (f_X1_isSilent G (nI i + 1)) = nI (cntB (fun o => (decide (o + 1 = i) || decide (o = i + 1)) && !(b o)) n) := by
  have out : ∀ x : Int32, f_X11_outside x (nI n) = 1 → f_X1_isSilent G x = 0 := by
    intro x hx
    unfold f_X1_isSilent
    rw [h11, hx, if_neg i10]
  have e1 : f_X1_isSilent G (nI i - 1) = nI (if 0 < i ∧ i - 1 < n ∧ (!(b (i - 1))) = true then 1 else 0) := by
    by_cases h0 : 0 < i
    · have q : nI i - 1 = nI (i - 1) := subI (b := 1) h0
      rw [q, sil11 hn h11 h13 (by omega)]
      cases hb : b (i - 1) with
      | true => rw [if_neg (fun z => absurd z.2.2 (by decide))]; rfl
      | false => rw [if_pos ⟨h0, by omega, rfl⟩]; rfl
    · have q : i = 0 := by omega
      subst q
      rw [if_neg (by omega), out]
      · rfl
      · unfold f_X11_outside
        rw [if_pos (by decide)]
  have e2 : f_X1_isSilent G (nI i + 1) = nI (if i + 1 < n ∧ (!(b (i + 1))) = true then 1 else 0) := by
    rw [nI_1]
    by_cases h1 : i + 1 < n
    · rw [sil11 hn h11 h13 h1]
      cases hb : b (i + 1) with
      | true => rw [if_neg (fun z => absurd z.2 (by decide))]; rfl
      | false => rw [if_pos ⟨h1, rfl⟩]; rfl
    · rw [if_neg (fun z => h1 z.1), out]
      · rfl
      · unfold f_X11_outside
        rw [if_neg (nI_pos (by omega)), if_neg (nI_nlt (by omega) (by omega))]
  rw [cnt2, e1, e2, ← nI_add]
  congr 1
  · split <;> rfl
  · split <;> rfl
theorem listen11 (G : Mem) (k l : Int32) : f_X1_listen G k l = some (up2 (up2 (rpR G 129 6 (fun _ => 0)) 129 1 l) 129 2 k) := by
  unfold f_X1_listen
  rw [fill11 G 129 6 (by decide), bndO_e, bnd_e, bnd_e]
  rfl
theorem beg11 {C : Mem} {L : MemL} {O : MemO} {S : Nat → Nat} {B : Mem} {ev : Nat → (Nat → Int32) → Int32} {w r : Nat} {lo : Nat → Int32} {pl : Nat → Nat → Bool} {n km ls lk k i : Nat} {st : Nat → Sg} {G : Mem} (hC : CxC C L O S B ev w r pl n km ls lk) (hk : k < km) (hi : i < n) (hB : ∀ b, ¬ scC b → G b = C b) (h128 : ∀ j, j ≠ 13 → G 128 j = C 128 j) (h13 : G 128 13 = msk (fun i => (st i).2.2.2) n) (h130 : G 130 i = (st i).1) (h132 : G 132 i = (st i).2.2.1) : ∃ Gz, f_X1_begins G L O S (nI i) (nI k) (lo k) = some (Gz, b2 (begS B ev (nI w) lo pl n k i st)) ∧ ∀ b, b ≠ 129 → ¬ (2000 ≤ b ∧ b % 4 = 3) → Gz b = G b := by
  obtain ⟨hn, hw, c10, c11, c14, csg, cbar, cle, cme, ⟨cr1, cr2, cr3⟩, ckm, cpl, ckm2⟩ := hC
  have nsc : ∀ {b}, (b < 128 ∨ b = 133 ∨ b = 134 ∨ (135 < b ∧ b < 2000) ∨ (2000 ≤ b ∧ b % 4 ≠ 3)) → G b = C b := fun h => hB _ (by unfold scC; omega)
  unfold f_X1_begins begS
  rw [h128 10 (by decide), c10, isPlan_eq]
  by_cases w1 : nI w = 1
  · have : w = 1 := (nI_eq (b := 1) (by omega) (by decide)).mp w1
    subst this
    rw [if_pos w1, if_pos w1, if_neg (show ¬ (48 : Int32) ≤ nI k from nI_ge (b := 48) (by have := ckm ⟨by decide, by decide⟩; omega) (by decide)), chk_t (inB_n (show k < 48 by have := ckm ⟨by decide, by decide⟩; omega) (by decide)), nI_clamp (by omega), nsc (by omega), cbar k (by have := ckm ⟨by decide, by decide⟩; omega)]
    refine ⟨G, ?_, fun _ _ _ => rfl⟩
    by_cases hb : B 2 k = 1
    · rw [if_pos hb, decide_eq_true hb]; rfl
    · rw [if_neg hb, decide_eq_false hb]; rfl
  rw [if_neg w1, if_neg w1]
  have hb : inB (nI i) 10 = true := inB_n (by omega) (by decide)
  have hc : (nI i).toNatClampNeg = i := nI_clamp (by omega)
  by_cases w2 : f_X12_in (nI w) 2 5 = 0
  rotate_left
  · have h48 : k < 48 := by
      have : w ≠ 0 ∧ w ≠ 6 := ⟨fun q => w2 (by rw [q]; decide), fun q => w2 (by rw [q]; decide)⟩
      have := ckm this
      omega
    rw [if_neg w2, if_neg w2, if_neg (show ¬ (48 : Int32) ≤ nI k from nI_ge (b := 48) h48 (by decide)), chk_t hb, hc]
    refine ⟨G, ?_, fun _ _ _ => rfl⟩
    have hp := cpl w2 i k hi hk
    cases hpl : pl i k with
    | true => rw [if_pos (hp.mpr hpl)]; rfl
    | false => rw [if_neg (fun q => by have := hp.mp q; rw [hpl] at this; cases this)]; rfl
  obtain ⟨s1, s2, s3, s4, s5, s6, s7, s8, s9⟩ := csg i hi
  rw [if_pos w2, if_pos w2, chk_t hb, chk_t hb, hc, s1, bndO_e, chk_t (sgE_k (by omega) s2 s6), chk_t hb, cap11 G s2 s6, nsc (b := 1000 + i) (by omega), s3, s5, h130, h132]
  by_cases hcap : (st i).1 < capS (B 5 i) (B 7 i) (B 8 i) (st i).2.2.1 (lo k)
  rotate_left
  · rw [if_pos (Int32.not_lt.mp hcap), if_neg hcap]
    exact ⟨G, rfl, fun _ _ _ => rfl⟩
  rw [if_neg (Int32.not_le.mpr hcap), if_pos hcap]
  by_cases w6 : nI w = 6
  · rw [if_pos w6, if_neg (by rw [w6]; decide)]
    exact ⟨G, rfl, fun _ _ _ => rfl⟩
  have w0 : w = 0 := by
    rcases (show w = 0 ∨ w = 1 ∨ w = 2 ∨ w = 3 ∨ w = 4 ∨ w = 5 ∨ w = 6 by omega) with h | h | h | h | h | h | h
    · exact h
    · exact absurd (by rw [h]; rfl) w1
    · exact absurd w2 (by rw [h]; decide)
    · exact absurd w2 (by rw [h]; decide)
    · exact absurd w2 (by rw [h]; decide)
    · exact absurd w2 (by rw [h]; decide)
    · exact absurd (by rw [h]; rfl) w6
  rw [if_neg w6, if_pos (show nI w = (0 : Int32) by rw [w0]; rfl)]
  obtain ⟨v, hv, hve⟩ := s9
  unfold f_X1_ruleTells
  have hbv : inB (nI v) 4 = true := inB_n hv (by decide)
  rw [chk_t hb, bnd_e, hc, nsc (b := 106) (by omega), s8, hve, chk_t hbv, bnd_e, bnd_e, nI_clamp (show v < 2 ^ 31 by omega), nsc (b := 134) (by omega), cme v hv, h13, msk_and3 hn hi, silP11 hn ((h128 11 (by decide)).trans c11) h13 hi, listen11, bndO_e, chk_t hb, bnd_e, bnd_e, bnd_e, chk_t hb, bnd_e]
  rw [show (0 : Int32).toNatClampNeg = 0 from rfl, show (3 : Int32).toNatClampNeg = 3 from rfl, show (4 : Int32).toNatClampNeg = 4 from rfl, show (5 : Int32).toNatClampNeg = 5 from rfl]
  -- the facts
  have r130 : ∀ x y : Int32, up2 (up2 (rpR G 129 6 (fun _ => 0)) 129 1 x) 129 2 y 130 i = (st i).1 := by
    intro x y
    rw [up2_o (Or.inl (by decide)), up2_o (Or.inl (by decide)), rpR_n (by decide)]
    exact h130
  rw [r130]
  have c3e : cntB (fun j => ((st j).2.2.2 && decide (B 6 j = nI v)) && decide (j ≠ i)) n = cntB (fun o => decide (o ≠ i) && decide (B 6 o = B 6 i) && (st o).2.2.2) n := by
    refine cntB_congr (fun o _ => ?_)
    rw [hve]
    cases (st o).2.2.2 <;> cases decide (B 6 o = nI v) <;> cases decide (o ≠ i) <;> rfl
  rw [c3e]
  obtain ⟨f, hf⟩ : ∃ f, f = fctS B n k i lo st := ⟨_, rfl⟩
  have f3 : f 3 = nI (cntB (fun o => decide (o ≠ i) && decide (B 6 o = B 6 i) && (st o).2.2.2) n) := by rw [hf]; rfl
  have f4 : f 4 = nI (cntB (fun o => (decide (o + 1 = i) || decide (o = i + 1)) && !(st o).2.2.2) n) := by rw [hf]; rfl
  rw [← f3, ← f4, ← hf]
  obtain ⟨H, hH⟩ : ∃ H, H = up2 (up2 (up2 (up2 (up2 (up2 (rpR G 129 6 (fun _ => 0)) 129 1 (lo k)) 129 2 (nI k)) 129 0 (st i).1) 129 3 (f 3)) 129 4 (f 4)) 129 5 (up2 (up2 (up2 (up2 (up2 (rpR G 129 6 (fun _ => 0)) 129 1 (lo k)) 129 2 (nI k)) 129 0 (st i).1) 129 3 (f 3)) 129 4 (f 4) 132 i) := ⟨_, rfl⟩
  rw [← hH]
  have Hb : ∀ b, b ≠ 129 → H b = G b := by
    intro b hb
    rw [hH, up2_n _ _ _ hb, up2_n _ _ _ hb, up2_n _ _ _ hb, up2_n _ _ _ hb, up2_n _ _ _ hb, up2_n _ _ _ hb, rpR_n hb]
  have Hf : ∀ j, j < 6 → H 129 j = f j := by
    intro j hj
    have a5 : up2 (up2 (up2 (up2 (up2 (rpR G 129 6 (fun _ => 0)) 129 1 (lo k)) 129 2 (nI k)) 129 0 (st i).1) 129 3 (f 3)) 129 4 (f 4) 132 i = (st i).2.2.1 := by
      rw [up2_o (Or.inl (by decide)), up2_o (Or.inl (by decide)), up2_o (Or.inl (by decide)), up2_o (Or.inl (by decide)), up2_o (Or.inl (by decide)), rpR_n (by decide)]
      exact h132
    rw [hH, a5]
    rcases (show j = 0 ∨ j = 1 ∨ j = 2 ∨ j = 3 ∨ j = 4 ∨ j = 5 by omega) with rfl | rfl | rfl | rfl | rfl | rfl
    · rw [up2_an _ _ _ (by decide), up2_an _ _ _ (by decide), up2_an _ _ _ (by decide), up2_aa, hf]; rfl
    · rw [up2_an _ _ _ (by decide), up2_an _ _ _ (by decide), up2_an _ _ _ (by decide), up2_an _ _ _ (by decide), up2_an _ _ _ (by decide), up2_aa, hf]; rfl
    · rw [up2_an _ _ _ (by decide), up2_an _ _ _ (by decide), up2_an _ _ _ (by decide), up2_an _ _ _ (by decide), up2_aa, hf]; rfl
    · rw [up2_an _ _ _ (by decide), up2_an _ _ _ (by decide), up2_aa]
    · rw [up2_an _ _ _ (by decide), up2_aa]
    · rw [up2_aa, hf]; rfl
  rw [cr1, bndO_e, chk_t cr2]
  obtain ⟨G2, g1, g2⟩ := cr3 0 (by decide) H f (by rw [Hb _ (by omega), nsc (by omega)]) (by rw [Hb _ (by omega), nsc (by omega)]) Hf
  rw [show f_X9_valueOf H S (2000 + 4 * r) 0 = some (G2, ev 0 f) from g1, bndP_e]
  have fin2 : ∀ b, b ≠ 129 → ¬ (2000 ≤ b ∧ b % 4 = 3) → G2 b = G b := fun b h1 h2 => by rw [g2 b (by omega), Hb b h1]
  by_cases m0 : ev 0 f = 0
  rotate_left
  · rw [if_neg m0, if_neg m0, bndP_e, if_neg i10]
    exact ⟨G2, rfl, fin2⟩
  rw [if_pos m0, if_pos m0, chk_t hbv, fin2 105 (by decide) (by omega), nsc (b := 105) (by omega), cle v hv]
  obtain ⟨G3, h1, h2⟩ := cr3 1 (by decide) G2 f (by rw [fin2 _ (by omega) (by omega), nsc (by omega)]) (by rw [fin2 _ (by omega) (by omega), nsc (by omega)]) (fun j hj => by rw [g2 129 (by omega)]; exact Hf j hj)
  have fin3 : ∀ b, b ≠ 129 → ¬ (2000 ≤ b ∧ b % 4 = 3) → G3 b = G b := fun b q1 q2 => by rw [h2 b (by omega), fin2 b q1 q2]
  by_cases l3 : f 3 < B 4 v
  · rw [if_pos l3, bndP_e, if_pos rfl]
    refine ⟨G2, ?_, fin2⟩
    by_cases m1 : ev 1 f = 0
    · rw [if_pos m1]; rfl
    · rw [if_neg m1, decide_eq_false (Int32.not_le.mpr l3)]; rfl
  rw [if_neg l3]
  by_cases l4 : f 4 = 0
  rotate_left
  · rw [if_neg l4, bndP_e, if_pos rfl]
    refine ⟨G2, ?_, fin2⟩
    by_cases m1 : ev 1 f = 0
    · rw [if_pos m1]; rfl
    · rw [if_neg m1, decide_eq_false l4]
      cases decide (B 4 v ≤ f 3) <;> rfl
  rw [if_pos l4, bndO_e, chk_t cr2, show f_X9_valueOf G2 S (2000 + 4 * r) 1 = some (G3, ev 1 f) from h1, bndP_e]
  by_cases m1 : ev 1 f = 0
  · rw [if_pos m1, bndP_e, if_pos rfl, if_pos m1]
    exact ⟨G3, rfl, fin3⟩
  · rw [if_neg m1, bndP_e, if_neg i10, if_neg m1, decide_eq_true (Int32.not_lt.mp l3), decide_eq_true l4]
    exact ⟨G3, rfl, fin3⟩
theorem how11 {C : Mem} {B : Mem} {n v : Nat} {st : Nat → Sg} {G : Mem} (hn : n ≤ 10) (hv : v < 4) (hm : G 134 v = msk (fun i => decide (B 6 i = nI v)) n) (h13 : G 128 13 = msk (fun i => (st i).2.2.2) n) : f_X1_howMany G (nI v) = some (nI (cntV B n st v)) := by
  unfold f_X1_howMany
  rw [chk_t (inB_n hv (by decide)), nI_clamp (by omega), hm, h13, msk_and hn]
  rfl
theorem adv11 {C : Mem} {L : MemL} {O : MemO} {S : Nat → Nat} {B : Mem} {ev : Nat → (Nat → Int32) → Int32} {w r : Nat} {lo : Nat → Int32} {pl : Nat → Nat → Bool} {n km ls lk k : Nat} {st : Nat → Sg} {th : Nat → Int32} {G : Mem} (hC : CxC C L O S B ev w r pl n km ls lk) (hk : k < km) (hok : stOK n st) (hG : CMem C n k ls lk st th G) : ∃ Gz, f_X1_advance G L O S (nI k) (lo k) = some Gz ∧ CMem C n (k + 1) ls lk (stepS B ev (nI w) lo pl n ls lk k st) (thN B n (stepS B ev (nI w) lo pl n ls lk k st) th) Gz := by
  obtain ⟨hn, hw, c10, c11, c14, csg, cbar, cle, cme, crl, ckm, cpl, ckm2⟩ := id hC
  obtain ⟨hB, h128, hrow, h13, h135⟩ := hG
  obtain ⟨nst, hnst⟩ : ∃ x, x = stepS B ev (nI w) lo pl n ls lk k st := ⟨_, rfl⟩
  rw [← hnst]
  have hns : ∀ i, nst i = oneS (decide (i = ls ∧ lk ≤ k)) (begS B ev (nI w) lo pl n k i st) (tkS (B 5 i) (B 9 i) (st i).2.2.1) (st i) := fun i => by rw [hnst]; rfl
  unfold f_X1_advance
  refine iter_fuel (q_X1_advance_5 L O S (nI k) (lo k)) (fun i a => ∃ H : Mem, a = (H, msk (fun j => (nst j).2.2.2) i, nI i) ∧ (∀ b, ¬ scC b → H b = C b) ∧ (∀ j, j ≠ 13 → H 128 j = C 128 j) ∧ H 128 13 = msk (fun i => (st i).2.2.2) n ∧ (∀ v, v < 4 → H 135 v = th v) ∧ (∀ j, j < n → i ≤ j → ¬ (j = ls ∧ lk < k) → H 130 j = (st j).1 ∧ H 131 j = (st j).2.1 ∧ H 132 j = (st j).2.2.1) ∧ ∀ j, j < i → ¬ (j = ls ∧ lk < k + 1) → H 130 j = (nst j).1 ∧ H 131 j = (nst j).2.1 ∧ H 132 j = (nst j).2.2.1) (fun q => ∃ Gz, q = some Gz ∧ CMem C n (k + 1) ls lk nst (thN B n nst th) Gz) n (by omega) ?_ ?_ ⟨G, rfl, hB, h128, h13, h135, fun j hj _ hl => hrow j hj hl, fun j hj => by omega⟩
  · rintro i a hi ⟨H, rfl, e1, e2, e3, e4, e5, e6⟩ rec
    left
    have hb : inB (nI i) 10 = true := inB_n (by omega) (by decide)
    have hc : (nI i).toNatClampNeg = i := nI_clamp (by omega)
    have hnx : nI i + 1 = nI (i + 1) := nI_1 i
    unfold q_X1_advance_5
    show ∃ a', _ ∧ (if H 128 11 ≤ nI i then _ else _) = rec a'
    rw [e2 11 (by decide), c11, if_neg (nI_ge hi (by omega))]
    have m1 : (nst i).2.2.2 = true → msk (fun j => (nst j).2.2.2) (i + 1) = msk (fun j => (nst j).2.2.2) i ||| (1 <<< (nI i &&& 31)) := by
      intro h
      show (if (nst i).2.2.2 = true then _ else _) = _
      rw [if_pos h]
    have m0 : (nst i).2.2.2 = false → msk (fun j => (nst j).2.2.2) (i + 1) = msk (fun j => (nst j).2.2.2) i := by
      intro h
      show (if (nst i).2.2.2 = true then _ else _) = _
      rw [if_neg (by rw [h]; decide)]
    -- what a step leaves
    have put : ∀ H1 : Mem, (∀ b, b ≠ 129 → b ≠ 130 → b ≠ 131 → b ≠ 132 → ¬ (2000 ≤ b ∧ b % 4 = 3) → H1 b = H b) → (∀ j, j ≠ i → H1 130 j = H 130 j ∧ H1 131 j = H 131 j ∧ H1 132 j = H 132 j) → (¬ (i = ls ∧ lk < k + 1) → H1 130 i = (nst i).1 ∧ H1 131 i = (nst i).2.1 ∧ H1 132 i = (nst i).2.2.1) → ∃ H2 : Mem, (H1, msk (fun j => (nst j).2.2.2) (i + 1), nI (i + 1)) = (H2, msk (fun j => (nst j).2.2.2) (i + 1), nI (i + 1)) ∧ (∀ b, ¬ scC b → H2 b = C b) ∧ (∀ j, j ≠ 13 → H2 128 j = C 128 j) ∧ H2 128 13 = msk (fun i => (st i).2.2.2) n ∧ (∀ v, v < 4 → H2 135 v = th v) ∧ (∀ j, j < n → i + 1 ≤ j → ¬ (j = ls ∧ lk < k) → H2 130 j = (st j).1 ∧ H2 131 j = (st j).2.1 ∧ H2 132 j = (st j).2.2.1) ∧ ∀ j, j < i + 1 → ¬ (j = ls ∧ lk < k + 1) → H2 130 j = (nst j).1 ∧ H2 131 j = (nst j).2.1 ∧ H2 132 j = (nst j).2.2.1 := by
      intro H1 f1 f2 f3
      have r128 : H1 128 = H 128 := f1 128 (by decide) (by decide) (by decide) (by decide) (by omega)
      have r135 : H1 135 = H 135 := f1 135 (by decide) (by decide) (by decide) (by decide) (by omega)
      refine ⟨H1, rfl, fun b hb => ?_, fun j hj => by rw [r128]; exact e2 j hj, by rw [r128]; exact e3, fun v hv => by rw [r135]; exact e4 v hv, fun j hj hij hl => ?_, fun j hj hl => ?_⟩
      · have hb' := hb
        unfold scC at hb'
        rw [f1 b (by omega) (by omega) (by omega) (by omega) (by omega)]
        exact e1 b hb
      · obtain ⟨q1, q2, q3⟩ := f2 j (by omega)
        rw [q1, q2, q3]
        exact e5 j hj (by omega) hl
      · by_cases hji : j = i
        · subst hji
          exact f3 hl
        · obtain ⟨q1, q2, q3⟩ := f2 j hji
          rw [q1, q2, q3]
          exact e6 j (by omega) hl
    have alive : ¬ (i = ls ∧ lk ≤ k) → ∃ a', (∃ H2 : Mem, a' = (H2, msk (fun j => (nst j).2.2.2) (i + 1), nI (i + 1)) ∧ (∀ b, ¬ scC b → H2 b = C b) ∧ (∀ j, j ≠ 13 → H2 128 j = C 128 j) ∧ H2 128 13 = msk (fun i => (st i).2.2.2) n ∧ (∀ v, v < 4 → H2 135 v = th v) ∧ (∀ j, j < n → i + 1 ≤ j → ¬ (j = ls ∧ lk < k) → H2 130 j = (st j).1 ∧ H2 131 j = (st j).2.1 ∧ H2 132 j = (st j).2.2.1) ∧ ∀ j, j < i + 1 → ¬ (j = ls ∧ lk < k + 1) → H2 130 j = (nst j).1 ∧ H2 131 j = (nst j).2.1 ∧ H2 132 j = (nst j).2.2.1) ∧ j_X1_advance_34 L O S (nI k) (lo k) rec H (msk (fun j => (nst j).2.2.2) i) (nI i) = rec a' := by
      intro hal
      have hn1 := hns i
      rw [decide_eq_false hal] at hn1
      unfold oneS at hn1
      rw [if_neg (by decide)] at hn1
      obtain ⟨a130, a131, a132⟩ := e5 i hi (Nat.le_refl _) (fun q => hal ⟨q.1, by omega⟩)
      obtain ⟨⟨m, hm, hme⟩, hz⟩ := hok i hi
      -- the end
      have j98 : ∀ H1 : Mem, (∀ b, b ≠ 129 → b ≠ 130 → b ≠ 131 → b ≠ 132 → ¬ (2000 ≤ b ∧ b % 4 = 3) → H1 b = H b) → (∀ j, j ≠ i → H1 130 j = H 130 j ∧ H1 131 j = H 131 j ∧ H1 132 j = H 132 j) → H1 132 i = (nst i).2.2.1 → ((H1 131 i = 0 ∧ nst i = (H1 130 i + 1, 0, (nst i).2.2.1, true)) ∨ (∃ q, 0 < q ∧ q < 100 ∧ H1 131 i = nI q ∧ H1 130 i = 0 ∧ nst i = (0, nI q - 1, (nst i).2.2.1, false))) → ∃ a', (∃ H2 : Mem, a' = (H2, msk (fun j => (nst j).2.2.2) (i + 1), nI (i + 1)) ∧ (∀ b, ¬ scC b → H2 b = C b) ∧ (∀ j, j ≠ 13 → H2 128 j = C 128 j) ∧ H2 128 13 = msk (fun i => (st i).2.2.2) n ∧ (∀ v, v < 4 → H2 135 v = th v) ∧ (∀ j, j < n → i + 1 ≤ j → ¬ (j = ls ∧ lk < k) → H2 130 j = (st j).1 ∧ H2 131 j = (st j).2.1 ∧ H2 132 j = (st j).2.2.1) ∧ ∀ j, j < i + 1 → ¬ (j = ls ∧ lk < k + 1) → H2 130 j = (nst j).1 ∧ H2 131 j = (nst j).2.1 ∧ H2 132 j = (nst j).2.2.1) ∧ j_X1_advance_98 L O S (nI k) (lo k) rec H1 (msk (fun j => (nst j).2.2.2) i) (nI i) = rec a' := by
        intro H1 f1 f2 f3 f4
        unfold j_X1_advance_98
        simp only [chk_t hb, hc]
        rcases f4 with ⟨z0, zn⟩ | ⟨q, q1, q2, q3, q4, zn⟩
        · have n1 : (nst i).1 = H1 130 i + 1 := by rw [zn]
          have n2 : (nst i).2.1 = 0 := by rw [zn]
          have n4 : (nst i).2.2.2 = true := by rw [zn]
          rw [if_pos (by rw [z0]; decide), bnd_e, bnd_e, bnd_e, hnx, ← m1 n4]
          refine ⟨_, put _ (fun b h1 h2 h3 h4 h5 => ?_) (fun j hj => ⟨?_, ?_, ?_⟩) (fun _ => ⟨?_, ?_, ?_⟩), rfl⟩
          · rw [up2_n _ _ _ h2]
            exact f1 b h1 h2 h3 h4 h5
          · rw [up2_an _ _ _ hj]; exact (f2 j hj).1
          · rw [up2_o (Or.inl (by decide))]; exact (f2 j hj).2.1
          · rw [up2_o (Or.inl (by decide))]; exact (f2 j hj).2.2
          · rw [up2_aa, n1]
          · rw [up2_o (Or.inl (by decide)), z0, n2]
          · rw [up2_o (Or.inl (by decide)), f3]
        · have n1 : (nst i).1 = 0 := by rw [zn]
          have n2 : (nst i).2.1 = nI q - 1 := by rw [zn]
          have n4 : (nst i).2.2.2 = false := by rw [zn]
          rw [if_neg (by rw [q3]; exact nI_nle q1 (by omega)), bnd_e, bnd_e, hnx, ← m0 n4]
          refine ⟨_, put _ (fun b h1 h2 h3 h4 h5 => ?_) (fun j hj => ⟨?_, ?_, ?_⟩) (fun _ => ⟨?_, ?_, ?_⟩), rfl⟩
          · rw [up2_n _ _ _ h3]
            exact f1 b h1 h2 h3 h4 h5
          · rw [up2_o (Or.inl (by decide))]; exact (f2 j hj).1
          · rw [up2_an _ _ _ hj]; exact (f2 j hj).2.1
          · rw [up2_o (Or.inl (by decide))]; exact (f2 j hj).2.2
          · rw [up2_o (Or.inl (by decide)), q4, n1]
          · rw [up2_aa, q3, n2]
          · rw [up2_o (Or.inl (by decide)), f3]
      have sameH : ∀ b, b ≠ 129 → b ≠ 130 → b ≠ 131 → b ≠ 132 → ¬ (2000 ≤ b ∧ b % 4 = 3) → H b = H b := fun _ _ _ _ _ _ => rfl
      have sameI : ∀ j, j ≠ i → H 130 j = H 130 j ∧ H 131 j = H 131 j ∧ H 132 j = H 132 j := fun _ _ => ⟨rfl, rfl, rfl⟩
      unfold j_X1_advance_34
      rw [chk_t hb, hc, a131]
      by_cases z0 : (st i).2.1 = 0
      rotate_left
      · rw [if_neg z0] at hn1 ⊢
        refine j98 H sameH sameI ?_ (Or.inr ⟨m, ?_, by omega, by rw [a131, hme], by rw [a130, hz z0], ?_⟩)
        · rw [a132, hn1]
        · exact Nat.pos_of_ne_zero (fun q => z0 (by rw [hme, q]; rfl))
        · rw [← hme, hn1]
      rw [if_pos z0] at hn1 ⊢
      obtain ⟨G1, g1, g2⟩ := beg11 (lo := lo) (st := st) hC hk hi e1 e2 e3 a130 a132
      have gk : ∀ b, b ≠ 129 → b ≠ 130 → b ≠ 131 → b ≠ 132 → ¬ (2000 ≤ b ∧ b % 4 = 3) → G1 b = H b := fun b h1 _ _ _ h5 => g2 b h1 h5
      have r130 : G1 130 = H 130 := g2 130 (by decide) (by omega)
      have r131 : G1 131 = H 131 := g2 131 (by decide) (by omega)
      have r132 : G1 132 = H 132 := g2 132 (by decide) (by omega)
      rw [g1, bndP_e]
      cases hbg : begS B ev (nI w) lo pl n k i st with
      | false =>
        rw [hbg, if_neg (by decide)] at hn1
        rw [if_pos (show b2 false = 0 from rfl)]
        refine j98 G1 gk (fun j _ => ⟨by rw [r130], by rw [r131], by rw [r132]⟩) ?_ (Or.inl ⟨?_, ?_⟩)
        · rw [r132, a132, hn1]
        · rw [r131, a131, z0]
        · rw [r130, a130, hn1]
      | true =>
        rw [hbg, if_pos rfl] at hn1
        obtain ⟨s1, s2, s3, s4, s5, s6, s7, s8, s9⟩ := csg i hi
        have rs : G1 (1000 + i) 1 = B 9 i := by
          rw [g2 (1000 + i) (by omega) (by omega), e1 (1000 + i) (by unfold scC; omega), s4]
        rw [if_neg (show ¬ b2 true = 0 by decide), chk_t hb, s1, bndO_e, chk_t (sgE_k (by omega) s2 s6)]
        simp only [chk_t hb]
        rw [tk11 G1 s2 s6, rs, r132, a132, bnd_e, bnd_e, bnd_e, up2_o (b := 132) (Or.inl (by decide)), r132, a132]
        obtain ⟨q, w1, w2, w3⟩ := tk_rg s6 s7 (o := (st i).2.2.1)
        rw [w3] at hn1 ⊢
        refine j98 _ (fun b h1 h2 h3 h4 h5 => ?_) (fun j hj => ⟨?_, ?_, ?_⟩) ?_ (Or.inr ⟨q, w1, by omega, ?_, ?_, ?_⟩)
        · rw [up2_n _ _ _ h2, up2_n _ _ _ h4, up2_n _ _ _ h3]
          exact g2 b h1 h5
        · rw [up2_an _ _ _ hj, up2_o (Or.inl (by decide)), up2_o (Or.inl (by decide)), r130]
        · rw [up2_o (Or.inl (by decide)), up2_o (Or.inl (by decide)), up2_an _ _ _ hj, r131]
        · rw [up2_o (Or.inl (by decide)), up2_an _ _ _ hj, up2_o (Or.inl (by decide)), r132]
        · rw [up2_o (Or.inl (by decide)), up2_aa, hn1]
        · rw [up2_o (Or.inl (by decide)), up2_o (Or.inl (by decide)), up2_aa]
        · rw [up2_aa]
        · rw [hn1]
    rw [e2 14 (by decide)]
    rcases c14 with ⟨l1, l2, l3, l4⟩ | ⟨l1, l2⟩
    · rw [l1]
      by_cases hil : i = ls
      · subst hil
        rw [if_pos rfl, e2 15 (by decide), l2]
        by_cases hkl : k < lk
        · rw [if_pos (nI_lt hkl (by omega))]
          exact alive (fun q => by omega)
        · rw [if_neg (nI_nlt (by omega) (by omega)), bnd_e, hnx]
          have hn1 := hns i
          rw [decide_eq_true (⟨rfl, by omega⟩ : i = i ∧ lk ≤ k)] at hn1
          unfold oneS at hn1
          rw [if_pos rfl] at hn1
          rw [← m0 (by rw [hn1])]
          exact ⟨_, put H (fun _ _ _ _ _ _ => rfl) (fun _ _ => ⟨rfl, rfl, rfl⟩) (fun q => absurd ⟨rfl, by omega⟩ q), rfl⟩
      · rw [if_neg (fun q => hil ((nI_eq (by omega) (by omega)).mp q))]
        exact alive (fun q => hil q.1)
    · rw [l1, if_neg (nIm1 (by omega))]
      exact alive (fun q => by omega)
  · rintro a ⟨H, rfl, e1, e2, e3, e4, e5, e6⟩ rec
    unfold q_X1_advance_5
    show ∃ Gz, (if H 128 11 ≤ nI n then _ else _) = some Gz ∧ _
    rw [e2 11 (by decide), c11, if_pos (nI_le (Nat.le_refl _) (by omega)), bnd_e]
    refine iter_fuel (q_X1_advance_154 L O S (nI k) (lo k)) (fun v a => ∃ H2 : Mem, a = (H2, nI v) ∧ (∀ b, b ≠ 135 → H2 b = up2 H 128 13 (msk (fun j => (nst j).2.2.2) n) b) ∧ (∀ u, u < v → H2 135 u = thN B n nst th u) ∧ ∀ u, v ≤ u → u < 4 → H2 135 u = th u) (fun q => ∃ Gz, q = some Gz ∧ CMem C n (k + 1) ls lk nst (thN B n nst th) Gz) 4 (by omega) ?_ ?_ ⟨_, rfl, fun _ _ => rfl, fun u hu => by omega, fun u _ hu => by rw [up2_o (Or.inl (by decide))]; exact e4 u hu⟩
    · rintro v a hv ⟨H2, rfl, f1, f2, f3⟩ rec
      left
      unfold q_X1_advance_154
      show ∃ a', _ ∧ (if nI 4 ≤ nI v then _ else _) = rec a'
      have hb4 : inB (nI v) 4 = true := inB_n hv (by decide)
      have hc4 : (nI v).toNatClampNeg = v := nI_clamp (by omega)
      have g134 : H2 134 v = msk (fun i => decide (B 6 i = nI v)) n := by
        rw [f1 134 (by decide), up2_o (Or.inl (by decide)), e1 134 (by unfold scC; omega), cme v hv]
      have g13 : H2 128 13 = msk (fun i => (nst i).2.2.2) n := by
        rw [f1 128 (by decide), up2_aa]
      have g105 : H2 105 v = B 4 v := by
        rw [f1 105 (by decide), up2_o (Or.inl (by decide)), e1 105 (by unfold scC; omega), cle v hv]
      have put : ∀ x : Int32, x = thN B n nst th v → ∃ H3 : Mem, (up2 H2 135 v x, nI (v + 1)) = (H3, nI (v + 1)) ∧ (∀ b, b ≠ 135 → H3 b = up2 H 128 13 (msk (fun j => (nst j).2.2.2) n) b) ∧ (∀ u, u < v + 1 → H3 135 u = thN B n nst th u) ∧ ∀ u, v + 1 ≤ u → u < 4 → H3 135 u = th u := by
        intro x hx
        refine ⟨_, rfl, fun b hb => by rw [up2_n _ _ _ hb]; exact f1 b hb, fun u hu => ?_, fun u h1 h2 => ?_⟩
        · by_cases huv : u = v
          · rw [huv, up2_aa, hx]
          · rw [up2_an _ _ _ huv]
            exact f2 u (by omega)
        · rw [up2_an _ _ _ (by omega)]
          exact f3 u (by omega) h2
      rw [if_neg (nI_ge hv (by decide)), how11 (C := C) hn hv g134 g13, bndO_e]
      simp only [chk_t hb4, hc4]
      rw [g105, f3 v (Nat.le_refl _) hv]
      by_cases hle : B 4 v ≤ nI (cntV B n nst v)
      · rw [if_pos hle, bnd_e, bnd_e, nI_1]
        refine ⟨_, put 0 ?_, rfl⟩
        unfold thN
        rw [if_pos hle]
      · rw [if_neg hle, bnd_e, bnd_e, nI_1]
        refine ⟨_, put (th v + 1) ?_, rfl⟩
        unfold thN
        rw [if_neg hle]
    · rintro a ⟨H2, rfl, f1, f2, f3⟩ rec
      refine ⟨H2, rfl, fun b hb => ?_, fun j hj => ?_, fun i hi hl => ?_, ?_, fun v hv => f2 v hv⟩
      · have hb' := hb
        unfold scC at hb'
        rw [f1 b (by omega), up2_n _ _ _ (by omega)]
        exact e1 b hb
      · rw [f1 128 (by decide), up2_an _ _ _ hj]
        exact e2 j hj
      · rw [f1 130 (by decide), f1 131 (by decide), f1 132 (by decide), up2_n _ _ _ (by decide), up2_n _ _ _ (by decide), up2_n _ _ _ (by decide)]
        exact e6 i hi hl
      · rw [f1 128 (by decide), up2_aa]
