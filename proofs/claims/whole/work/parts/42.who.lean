-- one breath more: when nothing planned comes behind it, nothing gets less thin
theorem cntB_mono {d e : Nat → Bool} {n : Nat} (h : ∀ i, i < n → d i = true → e i = true) : cntB d n ≤ cntB e n := by
  induction n with
  | zero => exact Nat.le_refl _
  | succ n ih =>
    have ih := ih (fun i hi => h i (by omega))
    cases hd : d n with
    | true =>
      rw [cntB_t hd, cntB_t (h n (by omega) hd)]
      omega
    | false =>
      rw [cntB_f (by rw [hd]; decide)]
      have : cntB e n ≤ cntB e (n + 1) := by
        cases he : e n with
        | true => rw [cntB_t he]; omega
        | false => rw [cntB_f (by rw [he]; decide)]; omega
      omega
def plX (pl : Nat → Nat → Bool) (i0 k0 : Nat) : Nat → Nat → Bool := fun i k => pl i k || (decide (i = i0) && decide (k = k0))
theorem begP {B : Mem} {ev : Nat → (Nat → Int32) → Int32} {w : Nat} {lo : Nat → Int32} {pl : Nat → Nat → Bool} {n k i : Nat} {st : Nat → Sg} (hw : 2 ≤ w ∧ w < 6) : begS B ev (nI w) lo pl n k i st = pl i k := by
  unfold begS
  have h1 : ¬ nI w = (1 : Int32) := fun q => by
    have := (nI_eq (a := w) (b := 1) (by omega) (by decide)).mp q
    omega
  have h2 : ¬ f_X12_in (nI w) 2 5 = 0 := by
    rcases (show w = 2 ∨ w = 3 ∨ w = 4 ∨ w = 5 by omega) with rfl | rfl | rfl | rfl <;> decide
  rw [if_neg h1, if_neg h2]
theorem run_mono {B : Mem} {ev : Nat → (Nat → Int32) → Int32} {w : Nat} {lo : Nat → Int32} {pl : Nat → Nat → Bool} {n i0 k0 km : Nat} (hw : 2 ≤ w ∧ w < 6) (hn : n ≤ 99) (hb : ∀ j, k0 < j → j < km → pl i0 j = false) : ∀ m, m ≤ km → (∀ i, i ≠ i0 → runS B ev (nI w) lo (plX pl i0 k0) n 99 0 m i = runS B ev (nI w) lo pl n 99 0 m i) ∧ (runS B ev (nI w) lo (plX pl i0 k0) n 99 0 m i0 = runS B ev (nI w) lo pl n 99 0 m i0 ∨ (k0 < m ∧ (runS B ev (nI w) lo pl n 99 0 m i0).2.2.2 = true ∧ (runS B ev (nI w) lo pl n 99 0 m i0).2.1 = 0) ∨ i0 = 99) := by
  intro m
  induction m with
  | zero => intro _; exact ⟨fun _ _ => rfl, Or.inl rfl⟩
  | succ m ih =>
    intro hm
    obtain ⟨h1, h2⟩ := ih (by omega)
    refine ⟨fun i hi => ?_, ?_⟩
    · show oneS _ (begS B ev (nI w) lo (plX pl i0 k0) n m i _) _ _ = oneS _ (begS B ev (nI w) lo pl n m i _) _ _
      rw [begP hw, begP hw, h1 i hi]
      have : plX pl i0 k0 i m = pl i m := by
        unfold plX
        rw [decide_eq_false hi]
        simp
      rw [this]
    · by_cases h99 : i0 = 99
      · exact Or.inr (Or.inr h99)
      have hd : decide (i0 = 99 ∧ 0 ≤ m) = false := decide_eq_false (fun q => h99 q.1)
      rcases h2 with h2 | ⟨h2, h3, h4⟩ | h2
      · by_cases hp : plX pl i0 k0 i0 m = pl i0 m
        · left
          show oneS _ (begS B ev (nI w) lo (plX pl i0 k0) n m i0 _) _ _ = oneS _ (begS B ev (nI w) lo pl n m i0 _) _ _
          rw [begP hw, begP hw, h2, hp]
        · have hk : m = k0 ∧ pl i0 m = false := by
            unfold plX at hp
            by_cases hmk : m = k0
            · refine ⟨hmk, ?_⟩
              cases hq : pl i0 m with
              | false => rfl
              | true => rw [hq] at hp; exact absurd rfl hp
            · rw [decide_eq_false hmk] at hp
              simp at hp
          by_cases hl : (runS B ev (nI w) lo pl n 99 0 m i0).2.1 = 0
          · right; left
            refine ⟨by omega, ?_⟩
            have e : runS B ev (nI w) lo pl n 99 0 (m + 1) i0 = ((runS B ev (nI w) lo pl n 99 0 m i0).1 + 1, 0, (runS B ev (nI w) lo pl n 99 0 m i0).2.2.1, true) := by
              show oneS _ (begS B ev (nI w) lo pl n m i0 _) _ _ = _
              rw [begP hw, hk.2, hd]
              unfold oneS
              rw [if_neg (by decide), if_pos hl, if_neg (by decide)]
            rw [e]
            exact ⟨rfl, rfl⟩
          · left
            show oneS _ (begS B ev (nI w) lo (plX pl i0 k0) n m i0 _) _ _ = oneS _ (begS B ev (nI w) lo pl n m i0 _) _ _
            rw [h2, hd]
            unfold oneS
            simp only [hl, if_false, Bool.false_eq_true]
      · right; left
        refine ⟨by omega, ?_⟩
        have e : runS B ev (nI w) lo pl n 99 0 (m + 1) i0 = ((runS B ev (nI w) lo pl n 99 0 m i0).1 + 1, 0, (runS B ev (nI w) lo pl n 99 0 m i0).2.2.1, true) := by
          show oneS _ (begS B ev (nI w) lo pl n m i0 _) _ _ = _
          rw [begP hw, hb m h2 (by omega), hd]
          unfold oneS
          rw [if_neg (by decide), if_pos h4, if_neg (by decide)]
        rw [e]
        exact ⟨rfl, rfl⟩
      · exact absurd h2 h99
/-- sums of what is bad, as numbers -/
theorem bad_num {B : Mem} {ev : Nat → (Nat → Int32) → Int32} {way : Int32} {lo : Nat → Int32} {p1 p2 : Nat → Nat → Bool} {n km : Nat} (hn : n ≤ 10) (hec : rgB (B 0 2) 6) (hle : ∀ v, v < 4 → rgB (B 4 v) 10) (hkm : km ≤ 48) (hm : ∀ m, m ≤ km → ∀ i, i < n → (runS B ev way lo p2 n 99 0 m i).2.2.2 = true → (runS B ev way lo p1 n 99 0 m i).2.2.2 = true) : ∀ m, m ≤ km → (∀ v, v < 4 → ∃ a b, a ≤ b ∧ b ≤ m ∧ thS B ev way lo p1 n 99 0 m v = nI a ∧ thS B ev way lo p2 n 99 0 m v = nI b) ∧ ∃ x y, x ≤ y ∧ y ≤ 4000 * m ∧ badK B ev way lo p1 n 99 0 m = lN x ∧ badK B ev way lo p2 n 99 0 m = lN y := by
  intro m
  induction m with
  | zero => intro _; exact ⟨fun v hv => ⟨0, 0, by decide, by decide, rfl, rfl⟩, 0, 0, by decide, by decide, rfl, rfl⟩
  | succ m ih =>
    intro hmk
    obtain ⟨h1, x, y, hxy, hy, hx1, hy1⟩ := ih (by omega)
    obtain ⟨r1, hr1⟩ : ∃ q, q = runS B ev way lo p1 n 99 0 (m + 1) := ⟨_, rfl⟩
    obtain ⟨r2, hr2⟩ : ∃ q, q = runS B ev way lo p2 n 99 0 (m + 1) := ⟨_, rfl⟩
    have hc : ∀ v, cntV B n r2 v ≤ cntV B n r1 v := by
      intro v
      refine cntB_mono (fun i hi h => ?_)
      rw [Bool.and_eq_true] at h ⊢
      exact ⟨by rw [hr1]; exact hm (m + 1) (by omega) i hi (by rw [← hr2]; exact h.1), h.2⟩
    have hcn : ∀ v, cntV B n r1 v ≤ n := fun v => cntB_le _ _
    have t1 : ∀ v, thS B ev way lo p1 n 99 0 (m + 1) v = if B 4 v ≤ nI (cntV B n r1 v) then 0 else thS B ev way lo p1 n 99 0 m v + 1 := fun v => by rw [hr1]; rfl
    have t2 : ∀ v, thS B ev way lo p2 n 99 0 (m + 1) v = if B 4 v ≤ nI (cntV B n r2 v) then 0 else thS B ev way lo p2 n 99 0 m v + 1 := fun v => by rw [hr2]; rfl
    have hth : ∀ v, v < 4 → ∃ a b, a ≤ b ∧ b ≤ m + 1 ∧ thS B ev way lo p1 n 99 0 (m + 1) v = nI a ∧ thS B ev way lo p2 n 99 0 (m + 1) v = nI b := by
      intro v hv
      obtain ⟨a, b, hab, hbm, ha, hb⟩ := h1 v hv
      obtain ⟨q, hq, hqe⟩ := hle v hv
      have hcv := hc v
      have hcnv := hcn v
      rw [t1, t2, ha, hb, hqe, nI_1, nI_1]
      by_cases g2 : q ≤ cntV B n r2 v
      · rw [if_pos (nI_le (by omega) (by omega)), if_pos (nI_le g2 (by omega))]
        exact ⟨0, 0, by decide, by omega, rfl, rfl⟩
      · rw [if_neg (show ¬ nI q ≤ nI (cntV B n r2 v) from nI_ge (by omega) (by omega))]
        by_cases g1 : q ≤ cntV B n r1 v
        · rw [if_pos (nI_le g1 (by omega))]
          exact ⟨0, b + 1, by omega, by omega, rfl, rfl⟩
        · rw [if_neg (nI_ge (by omega) (by omega))]
          exact ⟨a + 1, b + 1, by omega, by omega, rfl, rfl⟩
    refine ⟨hth, ?_⟩
    obtain ⟨wa, hwa, hwe⟩ := held_rg (ev 2 (fT B m))
    have hwo : woS B ev m = nI wa := hwe
    obtain ⟨ec, hec', hece⟩ := hec
    have hv : ∀ v, v ≤ 4 → ∃ x' y', x' ≤ y' ∧ y' ≤ y + 990 * v ∧ badV B (woS B ev m) n r1 (thS B ev way lo p1 n 99 0 (m + 1)) (lN x) v = lN x' ∧ badV B (woS B ev m) n r2 (thS B ev way lo p2 n 99 0 (m + 1)) (lN y) v = lN y' := by
      intro v
      induction v with
      | zero => intro _; exact ⟨x, y, hxy, by omega, rfl, rfl⟩
      | succ v ihv =>
        intro hv4
        obtain ⟨x', y', g1, g2, g3, g4⟩ := ihv (by omega)
        obtain ⟨a, b, hab, hbm, ha, hb⟩ := hth v (by omega)
        obtain ⟨q, hq, hqe⟩ := hle v (by omega)
        have hcv := hc v
        have hcnv := hcn v
        show ∃ x' y', _ ∧ _ ∧ (if thS B ev way lo p1 n 99 0 (m + 1) v ≤ B 0 2 then _ else _) = lN x' ∧ (if thS B ev way lo p2 n 99 0 (m + 1) v ≤ B 0 2 then _ else _) = lN y'
        rw [g3, g4, hwo, hqe, hece]
        -- a heard voice is below its least
        have low1 : ¬ a ≤ ec → cntV B n r1 v < q := by
          intro h
          by_cases g : q ≤ cntV B n r1 v
          · have := t1 v
            rw [hqe, if_pos (nI_le g (by omega)), ha] at this
            have := (nI_eq (a := a) (b := 0) (by omega) (by decide)).mp this
            omega
          · omega
        have low2 : ¬ b ≤ ec → cntV B n r2 v < q := by
          intro h
          by_cases g : q ≤ cntV B n r2 v
          · have := t2 v
            rw [hqe, if_pos (nI_le g (by omega)), hb] at this
            have := (nI_eq (a := b) (b := 0) (by omega) (by decide)).mp this
            omega
          · omega
        have term : ∀ c, c < q → (nI wa).toInt64 * (nI q - nI c).toInt64 = lN (wa * (q - c)) := by
          intro c hc
          rw [subI (by omega), nI_l (by omega), nI_l (by omega), lN_mul]
        rw [ha, hb]
        by_cases e1 : a ≤ ec
        · rw [if_pos (nI_le e1 (by omega))]
          by_cases e2 : b ≤ ec
          · rw [if_pos (nI_le e2 (by omega))]
            exact ⟨x', y', g1, by omega, rfl, rfl⟩
          · rw [if_neg (nI_ge (by omega) (by omega)), term _ (low2 e2), lN_add]
            have : wa * (q - cntV B n r2 v) ≤ 99 * 10 := Nat.mul_le_mul hwa (by omega)
            exact ⟨x', _, by omega, by omega, rfl, rfl⟩
        · have e2 : ¬ b ≤ ec := by omega
          rw [if_neg (nI_ge (by omega) (by omega)), if_neg (nI_ge (by omega) (by omega)), term _ (low1 e1), term _ (low2 e2), lN_add, lN_add]
          have m1 : wa * (q - cntV B n r1 v) ≤ wa * (q - cntV B n r2 v) := Nat.mul_le_mul (Nat.le_refl _) (by omega)
          have m2 : wa * (q - cntV B n r2 v) ≤ 99 * 10 := Nat.mul_le_mul hwa (by omega)
          exact ⟨_, _, by omega, by omega, rfl, rfl⟩
    obtain ⟨x', y', g1, g2, g3, g4⟩ := hv 4 (Nat.le_refl _)
    refine ⟨x', y', g1, by omega, ?_, ?_⟩
    · show badV B (woS B ev m) n _ _ (badK B ev way lo p1 n 99 0 m) 4 = _
      rw [hx1, ← hr1]
      exact g3
    · show badV B (woS B ev m) n _ _ (badK B ev way lo p2 n 99 0 m) 4 = _
      rw [hy1, ← hr2]
      exact g4
/-- is anything planned behind a step -/
theorem behind64 {x : Int64} {P : Nat → Bool} (h : plB x P) {k : Nat} (hk : k < 48) : lg_cmp (x >>> ((nI k).toInt64 &&& 63)) 1 ≤ 0 → ∀ j, k < j → j < 48 → P j = false := by
  intro hle j hkj hj
  obtain ⟨X, hX⟩ : ∃ X, X = x.toBitVec.toNat := ⟨_, rfl⟩
  have hlt : X < 2 ^ 48 := by
    rw [hX]
    refine Nat.lt_pow_two_of_testBit _ (fun j hj => ?_)
    have := h j
    have h48 : ¬ j < 48 := by omega
    simp only [h48, decide_false, Bool.false_and] at this
    exact this
  have hmsb : x.toBitVec.msb = false := by
    have := h 63
    simp only [show ¬ (63 < 48) by omega, decide_false, Bool.false_and] at this
    rw [BitVec.msb_eq_getLsbD_last]
    exact this
  have hsh : (x >>> ((nI k).toInt64 &&& 63)).toBitVec.toNat = X / 2 ^ k := by
    rw [Int64.toBitVec_shiftRight]
    show (x.toBitVec.sshiftRight (((nI k).toInt64 &&& 63 : Int64).toBitVec.smod 64).toNat).toNat = _
    rw [sh64 k hk, BitVec.sshiftRight_eq_of_msb_false hmsb, BitVec.toNat_ushiftRight, ← hX, Nat.shiftRight_eq_div_pow]
  have hy : (x >>> ((nI k).toInt64 &&& 63)).toInt = ((X / 2 ^ k : Nat) : Int) := by
    show (x >>> ((nI k).toInt64 &&& 63)).toBitVec.toInt = _
    have hle : X / 2 ^ k ≤ X := Nat.div_le_self _ _
    rw [BitVec.toInt_eq_toNat_of_lt (by rw [hsh]; omega), hsh]
  rw [cmp_le, Int64.lt_iff_toInt_lt, hy, show (1 : Int64).toInt = 1 from rfl] at hle
  have hP : P j = X.testBit j := by
    have h1 := h j
    have h2 : x.toBitVec.getLsbD j = X.testBit j := by rw [hX]; rfl
    rw [h2] at h1
    simp only [hj, decide_true, Bool.true_and] at h1
    exact h1.symm
  rw [hP]
  apply Nat.testBit_lt_two_pow
  have h1 : X / 2 ^ k < 2 := by omega
  have h2 : X < 2 ^ k * 2 := by
    have := Nat.div_lt_iff_lt_mul (x := X) (k := 2 ^ k) (y := 2) (Nat.two_pow_pos k)
    have := this.mp h1
    omega
  have h3 : 2 ^ k * 2 ≤ 2 ^ j := by
    rw [← Nat.pow_succ]
    exact Nat.pow_le_pow_right (by decide) (by omega)
  omega
