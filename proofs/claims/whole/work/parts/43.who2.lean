-- who: the class and the reference, side by side
theorem run_cg {B B2 : Mem} {ev : Nat → (Nat → Int32) → Int32} {way : Int32} {lo : Nat → Int32} {pl : Nat → Nat → Bool} {n ls lk : Nat} (h : ∀ b, 1 ≤ b → b ≤ 9 → B2 b = B b) (k : Nat) : runS B2 ev way lo pl n ls lk k = runS B ev way lo pl n ls lk k := by
  induction k with
  | zero => rfl
  | succ k ih =>
    show stepS B2 ev way lo pl n ls lk k (runS B2 ev way lo pl n ls lk k) = stepS B ev way lo pl n ls lk k (runS B ev way lo pl n ls lk k)
    rw [ih]
    unfold stepS begS fctS
    rw [h 2 (by decide) (by decide), h 4 (by decide) (by decide), h 5 (by decide) (by decide), h 6 (by decide) (by decide), h 7 (by decide) (by decide), h 8 (by decide) (by decide), h 9 (by decide) (by decide)]
theorem th_cg {B B2 : Mem} {ev : Nat → (Nat → Int32) → Int32} {way : Int32} {lo : Nat → Int32} {pl : Nat → Nat → Bool} {n ls lk : Nat} (h : ∀ b, 1 ≤ b → b ≤ 9 → B2 b = B b) (k : Nat) : thS B2 ev way lo pl n ls lk k = thS B ev way lo pl n ls lk k := by
  induction k with
  | zero => rfl
  | succ k ih =>
    show thN B2 n (runS B2 ev way lo pl n ls lk (k + 1)) (thS B2 ev way lo pl n ls lk k) = thN B n (runS B ev way lo pl n ls lk (k + 1)) (thS B ev way lo pl n ls lk k)
    rw [ih, run_cg h]
    unfold thN cntV
    rw [h 4 (by decide) (by decide), h 6 (by decide) (by decide)]
theorem bad_cg {B B2 : Mem} {ev : Nat → (Nat → Int32) → Int32} {way : Int32} {lo : Nat → Int32} {pl : Nat → Nat → Bool} {n ls lk : Nat} (h : ∀ b, 1 ≤ b → b ≤ 9 → B2 b = B b) (h0 : B2 0 2 = B 0 2) (k : Nat) : badK B2 ev way lo pl n ls lk k = badK B ev way lo pl n ls lk k := by
  have hv : ∀ (wo : Int32) (st : Nat → Sg) (th : Nat → Int32) (s : Int64) (v : Nat), badV B2 wo n st th s v = badV B wo n st th s v := by
    intro wo st th s v
    induction v with
    | zero => rfl
    | succ v ih =>
      show (if th v ≤ B2 0 2 then _ else _ + _ * (B2 4 v - nI (cntV B2 n st v)).toInt64) = (if th v ≤ B 0 2 then _ else _ + _ * (B 4 v - nI (cntV B n st v)).toInt64)
      rw [ih, h0]
      unfold cntV
      rw [h 4 (by decide) (by decide), h 6 (by decide) (by decide)]
  induction k with
  | zero => rfl
  | succ k ih =>
    show badV B2 (woS B2 ev k) n (runS B2 ev way lo pl n ls lk (k + 1)) (thS B2 ev way lo pl n ls lk (k + 1)) (badK B2 ev way lo pl n ls lk k) 4 = badV B (woS B ev k) n (runS B ev way lo pl n ls lk (k + 1)) (thS B ev way lo pl n ls lk (k + 1)) (badK B ev way lo pl n ls lk k) 4
    rw [hv, ih, run_cg h, th_cg h]
    have : woS B2 ev k = woS B ev k := by
      unfold woS fT
      rw [h 1 (by decide) (by decide)]
    rw [this]
/-- the best so far, singer by singer -/
noncomputable def whI (V : Nat → Nat → Int64) (k : Nat) (s0 : Int64 × Int32) : Nat → Int64 × Int32
  | 0 => s0
  | i + 1 => if lg_cmp (V i k) (whI V k s0 i).1 < 0 then (V i k, nI (100 * i + k)) else whI V k s0 i
noncomputable def whK (V : Nat → Nat → Int64) (n : Nat) (v0 : Int64) : Nat → Int64 × Int32
  | 0 => (v0, -1)
  | k + 1 => whI V k (whK V n v0 k) n
theorem whI_skip {V : Nat → Nat → Int64} {k i b y : Nat} {s0 : Int64 × Int32} (h1 : (whI V k s0 i).1 = lN b) (h2 : V i k = lN y) (hby : b ≤ y) (hy : y < 2 ^ 31) : whI V k s0 (i + 1) = whI V k s0 i := by
  show (if _ then _ else _) = _
  rw [if_neg]
  rw [cmp_lt, h1, h2, lN_lt hy (by omega)]
  omega
theorem whI_ok {V : Nat → Nat → Int64} {k x0 n : Nat} {s0 : Int64 × Int32} (hx : x0 < 2 ^ 31) (h0 : ∃ b, b ≤ x0 ∧ s0.1 = lN b) (hV : ∀ i, i < n → ∃ y, y < 2 ^ 31 ∧ V i k = lN y) : ∀ i, i ≤ n → ∃ b, b ≤ x0 ∧ (whI V k s0 i).1 = lN b := by
  intro i
  induction i with
  | zero => intro _; exact h0
  | succ i ih =>
    intro hi
    obtain ⟨b, hb, hbe⟩ := ih (by omega)
    obtain ⟨y, hy, hye⟩ := hV i (by omega)
    show ∃ b, b ≤ x0 ∧ (if lg_cmp (V i k) (whI V k s0 i).1 < 0 then (V i k, nI (100 * i + k)) else whI V k s0 i).1 = lN b
    by_cases h : lg_cmp (V i k) (whI V k s0 i).1 < 0
    · rw [if_pos h]
      rw [cmp_lt, hbe, hye, lN_lt hy (by omega)] at h
      exact ⟨y, by omega, hye⟩
    · rw [if_neg h]
      exact ⟨b, hb, hbe⟩
theorem whK_ok {V : Nat → Nat → Int64} {x0 n last : Nat} (hx : x0 < 2 ^ 31) (hV : ∀ i k, i < n → k < last → ∃ y, y < 2 ^ 31 ∧ V i k = lN y) : ∀ k, k ≤ last → ∃ b, b ≤ x0 ∧ (whK V n (lN x0) k).1 = lN b := by
  intro k
  induction k with
  | zero => intro _; exact ⟨x0, Nat.le_refl _, rfl⟩
  | succ k ih =>
    intro hk
    exact whI_ok hx (ih (by omega)) (fun i hi => hV i k hi (by omega)) n (Nat.le_refl _)
theorem who11 {P : Mem} {L : MemL} {O : MemO} {S : Nat → Nat} {x1 : Int32} {V : Nat → Nat → Int64} {n last x0 : Nat} (hn : n ≤ 10) (hl : last ≤ 48) (hx : x0 < 2 ^ 31) (h4 : P 100 4 = nI n) (h5 : P 101 5 = nI last) (hV : ∀ i k, i < n → k < last → ∃ y, y < 2 ^ 31 ∧ V i k = lN y) (hrun : ∀ i k, i < n → k < last → ∀ H : Mem, (∀ b, ¬ (scC b ∨ b = 134) → H b = P b) → (∀ j, j ≠ 13 → H 128 j = P 128 j) → ∃ H', f_X1_badOfAll H (up2 L 133 i (L 133 i ||| ((1 : Int64) <<< ((nI k).toInt64 &&& 63)))) O S = some (H', V i k) ∧ (∀ b, ¬ (scC b ∨ b = 134) → H' b = P b) ∧ (∀ j, j ≠ 13 → H' 128 j = P 128 j)) (hskip : ∀ i k, i < n → k < last → lg_cmp ((L 133 i) >>> ((nI k).toInt64 &&& 63)) 1 ≤ 0 → ∃ y, y < 2 ^ 31 ∧ V i k = lN y ∧ x0 ≤ y) {H0 : Mem} (i1 : ∀ b, ¬ (scC b ∨ b = 134) → H0 b = P b) (i2 : ∀ j, j ≠ 13 → H0 128 j = P 128 j) : ∃ Hz, iter (q_X11_who_54 S x1) fuel (H0, L, O, lN x0, (-1), 0) = some (Hz, L, O, (whK V n (lN x0) last).2) ∧ (∀ b, ¬ (scC b ∨ b = 134) → Hz b = P b) := by
  refine iter_fuel (q_X11_who_54 S x1) (fun k a => ∃ H : Mem, a = (H, L, O, (whK V n (lN x0) k).1, (whK V n (lN x0) k).2, nI k) ∧ (∀ b, ¬ (scC b ∨ b = 134) → H b = P b) ∧ (∀ j, j ≠ 13 → H 128 j = P 128 j)) (fun q => ∃ Hz, q = some (Hz, L, O, (whK V n (lN x0) last).2) ∧ (∀ b, ¬ (scC b ∨ b = 134) → Hz b = P b)) last (by omega) ?_ ?_ ⟨H0, rfl, i1, i2⟩
  · rintro k a hk ⟨H, rfl, e1, e2⟩ rec
    left
    have h101 : H 101 5 = nI last := by rw [e1 101 (by unfold scC; omega), h5]
    have hin : ∃ H' : Mem, iter (q_X11_who_69 S x1 rec) fuel (H, L, O, (whK V n (lN x0) k).1, (whK V n (lN x0) k).2, nI k, 0) = rec (H', L, O, (whK V n (lN x0) (k + 1)).1, (whK V n (lN x0) (k + 1)).2, nI (k + 1)) ∧ (∀ b, ¬ (scC b ∨ b = 134) → H' b = P b) ∧ (∀ j, j ≠ 13 → H' 128 j = P 128 j) := by
      refine iter_fuel (q_X11_who_69 S x1 rec) (fun i a => ∃ H : Mem, a = (H, L, O, (whI V k (whK V n (lN x0) k) i).1, (whI V k (whK V n (lN x0) k) i).2, nI k, nI i) ∧ (∀ b, ¬ (scC b ∨ b = 134) → H b = P b) ∧ (∀ j, j ≠ 13 → H 128 j = P 128 j)) (fun q => ∃ H' : Mem, q = rec (H', L, O, (whK V n (lN x0) (k + 1)).1, (whK V n (lN x0) (k + 1)).2, nI (k + 1)) ∧ (∀ b, ¬ (scC b ∨ b = 134) → H' b = P b) ∧ (∀ j, j ≠ 13 → H' 128 j = P 128 j)) n (by omega) ?_ ?_ ⟨H, rfl, e1, e2⟩
      · rintro i a hi ⟨M, rfl, f1, f2⟩ rec2
        left
        obtain ⟨b, hb, hbe⟩ := whI_ok hx (whK_ok hx hV k (by omega)) (fun i hi => hV i k hi hk) i (by omega)
        obtain ⟨y, hy, hye⟩ := hV i k hi hk
        have h100 : M 100 4 = nI n := by rw [f1 100 (by unfold scC; omega), h4]
        have hib : inB (nI i) 10 = true := inB_n (by omega) (by decide)
        unfold q_X11_who_69
        show ∃ a', _ ∧ (if M 100 4 ≤ nI i then _ else _) = _
        rw [h100, if_neg (nI_ge hi (by omega))]
        have s1 : nI i + 1 = nI (i + 1) := nI_1 i
        by_cases c1 : lg_cmp (whI V k (whK V n (lN x0) k) i).1 0 = 0
        · rw [if_pos c1, bnd_e, s1]
          have hb0 : b = 0 := by
            have : ¬ (0 : Int32) < lg_cmp (whI V k (whK V n (lN x0) k) i).1 0 := by rw [c1]; decide
            rw [cmp_gt, hbe, show (0 : Int64) = lN 0 from rfl, lN_lt (by omega) (by omega)] at this
            omega
          exact ⟨(M, L, O, (whI V k (whK V n (lN x0) k) i).1, (whI V k (whK V n (lN x0) k) i).2, nI k, nI (i + 1)), ⟨M, by rw [whI_skip hbe hye (by omega) hy], f1, f2⟩, rfl⟩
        · rw [if_neg c1]
          unfold f_X1_breathesBehind
          rw [chk_t hib, nI_clamp (by omega)]
          by_cases c2 : lg_cmp ((L 133 i) >>> ((nI k).toInt64 &&& 63)) 1 ≤ 0
          · rw [if_pos c2, bndO_e, if_pos rfl, bnd_e, s1]
            obtain ⟨y2, hy2, hye2, hxy⟩ := hskip i k hi hk c2
            exact ⟨(M, L, O, (whI V k (whK V n (lN x0) k) i).1, (whI V k (whK V n (lN x0) k) i).2, nI k, nI (i + 1)), ⟨M, by rw [whI_skip hbe hye2 (by omega) hy2], f1, f2⟩, rfl⟩
          · rw [if_neg c2, bndO_e, if_neg i10]
            obtain ⟨M2, r1, r2, r3⟩ := hrun i k hi hk M f1 f2
            have hLL : up2 (up2 L 133 i (L 133 i ||| ((1 : Int64) <<< ((nI k).toInt64 &&& 63)))) 133 i (L 133 i) = L := by
              funext q j
              by_cases hq : q = 133 ∧ j = i
              · rw [hq.1, hq.2, up2_aa]
              · rw [up2_o (by omega), up2_o (by omega)]
            rw [chk_t hib, bnd_e, chk_t hib, bnd_e, r1, bndP_e, chk_t hib, bnd_e, hLL]
            have e : (100 : Int32) * nI i + nI k = nI (100 * i + k) := by
              rw [show (100 : Int32) = nI 100 from rfl, mulI, nI_add]
            by_cases c3 : 0 ≤ lg_cmp (V i k) (whI V k (whK V n (lN x0) k) i).1
            · rw [if_pos c3, bnd_e, s1]
              refine ⟨(M2, L, O, (whI V k (whK V n (lN x0) k) i).1, (whI V k (whK V n (lN x0) k) i).2, nI k, nI (i + 1)), ⟨M2, ?_, r2, r3⟩, rfl⟩
              have : whI V k (whK V n (lN x0) k) (i + 1) = whI V k (whK V n (lN x0) k) i := if_neg (Int32.not_lt.mpr c3)
              rw [this]
            · rw [if_neg c3, bnd_e, bnd_e, s1, e]
              refine ⟨(M2, L, O, V i k, nI (100 * i + k), nI k, nI (i + 1)), ⟨M2, ?_, r2, r3⟩, rfl⟩
              have : whI V k (whK V n (lN x0) k) (i + 1) = (V i k, nI (100 * i + k)) := if_pos (Int32.not_le.mp c3)
              rw [this]
      · rintro a ⟨M, rfl, f1, f2⟩ rec2
        have h100 : M 100 4 = nI n := by rw [f1 100 (by unfold scC; omega), h4]
        refine ⟨M, ?_, f1, f2⟩
        unfold q_X11_who_69
        show (if M 100 4 ≤ nI n then _ else _) = _
        rw [h100, if_pos (nI_le (Nat.le_refl _) (by omega)), bnd_e, nI_1]
        rfl
    obtain ⟨H', g1, g2, g3⟩ := hin
    refine ⟨_, ⟨H', rfl, g2, g3⟩, ?_⟩
    unfold q_X11_who_54
    show (if H 101 5 ≤ nI k then _ else _) = _
    rw [h101, if_neg (nI_ge hk (by omega))]
    exact g1
  · rintro a ⟨H, rfl, e1, e2⟩ rec
    have h101 : H 101 5 = nI last := by rw [e1 101 (by unfold scC; omega), h5]
    refine ⟨H, ?_, e1⟩
    unfold q_X11_who_54
    show (if H 101 5 ≤ nI last then _ else _) = _
    rw [h101, if_pos (nI_le (Nat.le_refl _) (by omega))]
theorem who12 {G' : Mem} {x1 : Int32} {V : Nat → Nat → Int64} {n last : Nat} {v0 : Int64} (hn : n ≤ 10) (hl : last ≤ 48) (h7 : G' 0 7 = nI n) (h1 : G' 0 1 = nI last) (hrun : ∀ i k, i < n → k < last → ∀ H : Mem, (∀ b, b ≠ 0 → ¬ scR b → H b = G' b) → (∀ j, ¬ (36 ≤ j ∧ j ≤ 40) → H 0 j = G' 0 j) → ∃ H', f_X12_badOf (up2 (up2 (bgR H n) 0 38 (nI i)) 0 39 (nI k)) (2 + x1) = some (H', V i k) ∧ (∀ b, b ≠ 0 → ¬ scR b → H' b = G' b) ∧ (∀ j, ¬ (36 ≤ j ∧ j ≤ 40) → H' 0 j = G' 0 j)) {H0 : Mem} (i1 : ∀ b, b ≠ 0 → ¬ scR b → H0 b = G' b) (i2 : ∀ j, ¬ (36 ≤ j ∧ j ≤ 40) → H0 0 j = G' 0 j) : ∃ Hz, iter (q_X12_who_40 x1) fuel (H0, v0, (-1), 0) = some (Hz, (whK V n v0 last).2) ∧ (∀ b, b ≠ 0 → ¬ scR b → Hz b = G' b) ∧ (∀ j, ¬ (36 ≤ j ∧ j ≤ 40) → Hz 0 j = G' 0 j) := by
  refine iter_fuel (q_X12_who_40 x1) (fun k a => ∃ H : Mem, a = (H, (whK V n v0 k).1, (whK V n v0 k).2, nI k) ∧ (∀ b, b ≠ 0 → ¬ scR b → H b = G' b) ∧ (∀ j, ¬ (36 ≤ j ∧ j ≤ 40) → H 0 j = G' 0 j)) (fun q => ∃ Hz, q = some (Hz, (whK V n v0 last).2) ∧ (∀ b, b ≠ 0 → ¬ scR b → Hz b = G' b) ∧ (∀ j, ¬ (36 ≤ j ∧ j ≤ 40) → Hz 0 j = G' 0 j)) last (by omega) ?_ ?_ ⟨H0, rfl, i1, i2⟩
  · rintro k a hk ⟨H, rfl, e1, e2⟩ rec
    left
    have hin : ∃ H' : Mem, iter (q_X12_who_52 x1 rec) fuel (H, (whK V n v0 k).1, (whK V n v0 k).2, nI k, 0) = rec (H', (whK V n v0 (k + 1)).1, (whK V n v0 (k + 1)).2, nI (k + 1)) ∧ (∀ b, b ≠ 0 → ¬ scR b → H' b = G' b) ∧ (∀ j, ¬ (36 ≤ j ∧ j ≤ 40) → H' 0 j = G' 0 j) := by
      refine iter_fuel (q_X12_who_52 x1 rec) (fun i a => ∃ H : Mem, a = (H, (whI V k (whK V n v0 k) i).1, (whI V k (whK V n v0 k) i).2, nI k, nI i) ∧ (∀ b, b ≠ 0 → ¬ scR b → H b = G' b) ∧ (∀ j, ¬ (36 ≤ j ∧ j ≤ 40) → H 0 j = G' 0 j)) (fun q => ∃ H' : Mem, q = rec (H', (whK V n v0 (k + 1)).1, (whK V n v0 (k + 1)).2, nI (k + 1)) ∧ (∀ b, b ≠ 0 → ¬ scR b → H' b = G' b) ∧ (∀ j, ¬ (36 ≤ j ∧ j ≤ 40) → H' 0 j = G' 0 j)) n (by omega) ?_ ?_ ⟨H, rfl, e1, e2⟩
      · rintro i a hi ⟨M, rfl, f1, f2⟩ rec2
        left
        have h7' : M 0 7 = nI n := by rw [f2 7 (by omega), h7]
        have s1 : nI i + 1 = nI (i + 1) := nI_1 i
        have e : (100 : Int32) * nI i + nI k = nI (100 * i + k) := by
          rw [show (100 : Int32) = nI 100 from rfl, mulI, nI_add]
        obtain ⟨M2, r1, r2, r3⟩ := hrun i k hi hk M f1 f2
        unfold q_X12_who_52
        show ∃ a', _ ∧ (if M 0 7 ≤ nI i then _ else _) = _
        rw [h7', if_neg (nI_ge hi (by omega)), begin12 hn h7', bndO_e, bnd_e, bnd_e, r1, bndP_e]
        by_cases c3 : lg_cmp (V i k) (whI V k (whK V n v0 k) i).1 < 0
        · rw [if_pos c3, bnd_e, bnd_e, s1, e]
          refine ⟨(M2, V i k, nI (100 * i + k), nI k, nI (i + 1)), ⟨M2, ?_, r2, r3⟩, rfl⟩
          have : whI V k (whK V n v0 k) (i + 1) = (V i k, nI (100 * i + k)) := if_pos c3
          rw [this]
        · rw [if_neg c3, bnd_e, s1]
          refine ⟨(M2, (whI V k (whK V n v0 k) i).1, (whI V k (whK V n v0 k) i).2, nI k, nI (i + 1)), ⟨M2, ?_, r2, r3⟩, rfl⟩
          have : whI V k (whK V n v0 k) (i + 1) = whI V k (whK V n v0 k) i := if_neg c3
          rw [this]
      · rintro a ⟨M, rfl, f1, f2⟩ rec2
        refine ⟨M, ?_, f1, f2⟩
        unfold q_X12_who_52
        show (if M 0 7 ≤ nI n then _ else _) = _
        rw [f2 7 (by omega), h7, if_pos (nI_le (Nat.le_refl _) (by omega)), bnd_e, nI_1]
        rfl
    obtain ⟨H', g1, g2, g3⟩ := hin
    refine ⟨_, ⟨H', rfl, g2, g3⟩, ?_⟩
    unfold q_X12_who_40
    show (if H 0 1 ≤ nI k then _ else _) = _
    rw [e2 1 (by omega), h1, if_neg (nI_ge hk (by omega))]
    exact g1
  · rintro a ⟨H, rfl, e1, e2⟩ rec
    refine ⟨H, ?_, e1, e2⟩
    unfold q_X12_who_40
    show (if H 0 1 ≤ nI last then _ else _) = _
    rw [e2 1 (by omega), h1, if_pos (nI_le (Nat.le_refl _) (by omega))]
theorem ag_who : Ag_who RR := by
  intro z t G L O S G' x1 hR
  have hz := hR.1.1
  unfold f_X11_who f_X12_who
  rcases sh_rng x1 with ⟨s, hs, rfl, ho, his, hb, hc⟩ | ⟨ho, his⟩
  rotate_left
  · exact ⟨G, L, O, G', _, by rw [ho, if_neg i10], by rw [his, if_pos rfl], OW_rfl, hR⟩
  obtain ⟨q1, q2, q3⟩ := hR.2.2.2.2.2.2.1 s hs
  rw [ho, his, if_pos rfl, if_neg i10, hc, chk_t hb, chk_t hb, q1, bndO_e, chk_t (shE_i hs)]
  rcases srt (q3.imp id (fun q => q.1)) with ⟨a1, a2, a3⟩ | ⟨a1, a2, a3⟩
  · exact ⟨G, L, O, G', _, by rw [if_neg (fun q => m11.mp q (q2.trans a1))], by rw [if_neg a2], OW_rfl, hR⟩
  rw [if_pos (m11.mpr (by rw [q2]; exact a1)), if_pos a2]
  have hw : 2 ≤ 2 + s ∧ 2 + s < 6 := by omega
  have ew : (2 : Int32) + nI s = nI (2 + s) := by rw [show (2 : Int32) = nI 2 from rfl, nI_add]
  have esub : 2 + s - 2 = s := by omega
  have hin : ¬ f_X12_in (nI (2 + s)) 2 5 = 0 := by
    rcases (show s = 0 ∨ s = 1 ∨ s = 2 ∨ s = 3 by omega) with rfl | rfl | rfl | rfl <;> decide
  obtain ⟨r, ev, pl, C, L1, p5, hCx, hRx, p12, -, p13, hplan, GEN⟩ := RR_ctx hR (w := 2 + s) (by omega) (fun _ => by rw [esub]; exact a1)
  obtain ⟨O1, hO1⟩ : ∃ x, x = up2 O 128 12 (some (2000 + 4 * r)) := ⟨_, rfl⟩
  rw [← hO1] at p5 hCx p13
  obtain ⟨ln, ln1, ln2, ln3, hL⟩ := hplan hin
  rw [esub] at ln2 ln3
  obtain ⟨hsg, hpc, hla, -⟩ := id hR
  obtain ⟨last, l1, l2, l3⟩ := hla.1.2
  have l4 : G 101 5 = nI last := hla.1.1.trans l3
  have b1 : ∀ b, 1 ≤ b → b ≤ 13 → bgR G' z b = G' b := fun b h1 h2 => bgR_sc (by omega) (by unfold scR; omega) |>.trans rfl
  have b38 : bgR G' z 0 38 = -1 := by
    unfold bgR
    rw [up2_an _ _ _ (by decide), up2_aa]
  have b36 : ∀ H : Mem, bgR H z 0 36 = -1 := by
    intro H
    unfold bgR
    rw [up2_an _ _ _ (by decide), up2_an _ _ _ (by decide), up2_aa]
  have b40 : ∀ H : Mem, bgR H z 0 40 = -1 := fun H => up2_aa _ _ _ _
  have hC := hCx (bgR G' z) 48 (fun b hb => b1 b hb.1 (by omega)) (by decide) (fun _ => by decide)
  have hv6 : ∀ i, i < z → rgB (G' 6 i) 4 := fun i hi => (hsg.2.2.2 i hi).2.2.2.2.2.2.2.2.2.2
  have hCR := hRx (bgR G' z) (fun k => G' 1 k) 48 (fun b hb => bgR_sc (by omega) (by unfold scR; omega)) (fun i hi => by rw [b1 6 (by decide) (by decide)]; exact hv6 i hi) (by rw [bgR_0 (by decide)]; exact hsg.2.2.1) (bgR_0 (by decide)) b38 (fun k hk => Or.inr ⟨by rw [b40]; decide, hk, by rw [b1 1 (by decide) (by decide)]⟩) (fun _ => Nat.le_refl _) (by decide)
  obtain ⟨P, h1, h2, h3⟩ := weigh11 hC (by rw [p12 101 (by unfold scC; omega)]; exact l4) l2 (fun k hk => by rw [p12 102 (by unfold scC; omega), (hpc.1 k hk).1, b1 1 (by decide) (by decide)])
  -- one sum of the class
  have cls : ∀ (pl2 : Nat → Nat → Bool) (L2 : MemL), (∀ i k, i < z → k < 48 → (lg_cmp (((L2 133 i) >>> ((nI k).toInt64 &&& 63)) - ((L2 133 i) >>> ((nI k).toInt64 &&& 63)) / 2 * 2) 1 = 0 ↔ pl2 i k = true)) → ∀ H : Mem, (∀ b, ¬ (scC b ∨ b = 134) → H b = P b) → (∀ j, j ≠ 13 → H 128 j = P 128 j) → ∃ H', f_X1_badOfAll H L2 O1 S = some (H', badK (bgR G' z) ev (nI (2 + s)) (fun k => G' 1 k) pl2 z 99 0 last) ∧ (∀ b, ¬ (scC b ∨ b = 134) → H' b = P b) ∧ (∀ j, j ≠ 13 → H' 128 j = P 128 j) := by
    intro pl2 L2 hp H e1 e2
    have c128 : ∀ j, j ≠ 13 → H 128 j = C 128 j := fun j hj => by rw [e2 j hj, h2 128 (by omega)]
    have eC : ∀ b, ¬ (scC b ∨ b = 134 ∨ b = 136) → H b = C b := by
      intro b hb
      have hb' := hb
      unfold scC at hb'
      rw [e1 b (fun q => hb (q.elim Or.inl (fun h => Or.inr (Or.inl h)))), h2 b (by omega)]
    obtain ⟨Gx, x3, x4, x5⟩ := bad11 (lo := fun k => G' 1 k) (P := H) (L2 := L2) (B := bgR G' z) (pl := pl2) (ls := 99) (lk := 0) (last := last) hC (fun b hb => eC b (by unfold scC; omega)) (c128 10 (by decide)) (c128 11 (by decide)) (Or.inr ⟨by rw [c128 14 (by decide)]; exact (hC.2.2.2.2.1.resolve_left (fun q => by omega)).1, by omega⟩) (fun _ _ => rfl) (fun i hi => by rw [eC 106 (by unfold scC; omega)]; exact (hC.2.2.2.2.2.1 i hi).2.2.2.2.2.2.2) (fun _ => hp) (by rw [eC 101 (by unfold scC; omega), p12 101 (by unfold scC; omega)]; exact l4) l2 (fun k hk => by rw [eC 102 (by unfold scC; omega), p12 102 (by unfold scC; omega), (hpc.1 k hk).1]) (fun k => by rw [b1 1 (by decide) (by decide)]) (by rw [eC 101 (by unfold scC; omega), p12 101 (by unfold scC; omega), bgR_0 (by decide)]; exact hla.2.1.1) (by rw [bgR_0 (by decide)]; exact hla.2.1.2) (fun v hv => by rw [b1 4 (by decide) (by decide)]; exact (hpc.2.2.2 v hv).2) (fun k hk => by rw [e1 136 (by unfold scC; omega)]; exact h3 k hk)
    exact ⟨Gx, x3, fun b hb => by rw [x4 b hb, e1 b hb], fun j hj => by rw [x5 j hj, e2 j hj]⟩
  have hpar : ∀ i k, i < z → k < 48 → (lg_cmp (((L1 133 i) >>> ((nI k).toInt64 &&& 63)) - ((L1 133 i) >>> ((nI k).toInt64 &&& 63)) / 2 * 2) 1 = 0 ↔ pl i k = true) := fun i k hi hk => par64 (hL i hi) hk
  obtain ⟨Gz, g1, g2, g3⟩ := cls pl L1 hpar P (fun _ _ => rfl) (fun _ _ => rfl)
  obtain ⟨Gz', y1, y2⟩ := bad12 (ls := 99) (lk := 0) (last := last) hCR (Or.inr ⟨b36 _, by omega⟩) (begin12_M (G := G') (n := z) (B := bgR G' z) (fun _ _ => rfl)) (by rw [bgR_0 (by decide)]; exact l3) l2
  have hec : rgB (bgR G' z 0 2) 6 := by rw [bgR_0 (by decide)]; exact hla.2.1.2
  have hle : ∀ v, v < 4 → rgB (bgR G' z 4 v) 10 := fun v hv => by rw [b1 4 (by decide) (by decide)]; exact (hpc.2.2.2 v hv).2
  obtain ⟨-, x0, x0', hx00, hx0, hx0e, hx0e'⟩ := bad_num (B := bgR G' z) (ev := ev) (way := nI (2 + s)) (lo := fun k => G' 1 k) (p1 := pl) (p2 := pl) (n := z) (km := last) hz hec hle l2 (fun _ _ _ _ h => h) last (Nat.le_refl _)
  have hx31 : x0 < 2 ^ 31 := by omega
  have hV : ∀ i k, i < z → k < last → ∃ y, y < 2 ^ 31 ∧ badK (bgR G' z) ev (nI (2 + s)) (fun k => G' 1 k) (plX pl i k) z 99 0 last = lN y := by
    intro i k hi hk
    obtain ⟨-, x, y, hxy, hy, hxe, hye⟩ := bad_num (B := bgR G' z) (ev := ev) (way := nI (2 + s)) (lo := fun k => G' 1 k) (p1 := plX pl i k) (p2 := plX pl i k) (n := z) (km := last) hz hec hle l2 (fun _ _ _ _ h => h) last (Nat.le_refl _)
    exact ⟨y, by omega, hye⟩
  rw [hx0e] at g1 y1
  obtain ⟨Hz, k1, k2⟩ := who11 (P := P) (L := L1) (O := O1) (S := S) (x1 := nI s) (V := fun i k => badK (bgR G' z) ev (nI (2 + s)) (fun k => G' 1 k) (plX pl i k) z 99 0 last) (n := z) (last := last) (x0 := x0) hz l2 hx31 (by rw [h2 100 (by omega), p12 100 (by unfold scC; omega)]; exact hsg.2.1) (by rw [h2 101 (by omega), p12 101 (by unfold scC; omega)]; exact l4) hV (fun i k hi hk H e1 e2 => cls (plX pl i k) _ (fun i' k' hi' hk' => by
    by_cases hii : i' = i
    · subst hii
      rw [up2_aa, par64 (plB_or (hL i' hi') (by omega)) hk']
      unfold plX
      rw [decide_eq_true (rfl : i' = i'), Bool.true_and]
    · rw [up2_o (Or.inr hii), par64 (hL i' hi') hk']
      unfold plX
      rw [decide_eq_false hii, Bool.false_and, Bool.or_false]) H e1 e2) (fun i k hi hk hc => by
    obtain ⟨-, x, y, hxy, hy, hxe, hye⟩ := bad_num (B := bgR G' z) (ev := ev) (way := nI (2 + s)) (lo := fun k => G' 1 k) (p1 := pl) (p2 := plX pl i k) (n := z) (km := last) hz hec hle l2 (fun m hm i' hi' h => by
      obtain ⟨m1, m2⟩ := run_mono (B := bgR G' z) (ev := ev) (w := 2 + s) (lo := fun k => G' 1 k) (pl := pl) (n := z) (i0 := i) (k0 := k) (km := last) hw (by omega) (fun j hj1 hj2 => behind64 (hL i hi) (by omega) hc j hj1 (by omega)) m hm
      by_cases hii : i' = i
      · subst hii
        rcases m2 with m2 | ⟨-, m2, -⟩ | m2
        · rw [m2] at h; exact h
        · exact m2
        · omega
      · rw [m1 i' hii] at h; exact h) last (Nat.le_refl _)
    have hxx : x0 = x := (lN_inj (by omega) (by omega)).mp (hx0e.symm.trans hxe)
    exact ⟨y, by omega, hye, by omega⟩) g2 g3
  obtain ⟨Hz', k3, k4, k5⟩ := who12 (G' := G') (x1 := nI s) (V := fun i k => badK (bgR G' z) ev (nI (2 + s)) (fun k => G' 1 k) (plX pl i k) z 99 0 last) (n := z) (last := last) (v0 := lN x0) hz l2 hsg.2.2.1 l3 (fun i k hi hk H e1 e2 => by
    obtain ⟨B2, hB2⟩ : ∃ x, x = up2 (up2 (bgR H z) 0 38 (nI i)) 0 39 (nI k) := ⟨_, rfl⟩
    rw [← hB2, ew]
    have c2n : ∀ b, b ≠ 0 → ¬ scR b → B2 b = G' b := fun b h0 hb => by rw [hB2, up2_n _ _ _ h0, up2_n _ _ _ h0, bgR_sc h0 hb, e1 b h0 hb]
    have c20 : ∀ j, ¬ (36 ≤ j ∧ j ≤ 40) → B2 0 j = G' 0 j := fun j hj => by rw [hB2, up2_o (by omega), up2_o (by omega), bgR_0 (by omega), e2 j hj]
    have e40 : B2 0 40 = -1 := by rw [hB2, up2_o (by omega), up2_o (by omega), b40]
    have e36 : B2 0 36 = -1 := by rw [hB2, up2_o (by omega), up2_o (by omega), b36]
    have f38 : B2 0 38 = nI i := by rw [hB2, up2_o (by omega), up2_aa]
    have f39 : B2 0 39 = nI k := by rw [hB2, up2_aa]
    have hC2 := GEN (plX pl i k) B2 (fun k => G' 1 k) 48 (fun b hb => c2n b (by omega) (by unfold scR; omega)) (fun i hi => by rw [c2n 6 (by decide) (by unfold scR; omega)]; exact hv6 i hi) (by rw [c20 7 (by omega)]; exact hsg.2.2.1) (c20 16 (by omega)) (fun _ i' k' hi' hk' Gx a0 a32 a33 => by
      rw [show nI (2 + s) - 2 = nI s from (subI (a := 2 + s) (b := 2) (by omega)).trans (by rw [esub]), plan12 hs ln1 (by rw [a32, c2n 32 (by decide) (by unfold scR; omega), ln2]), a0, f38, f39, a33, c2n 33 (by decide) (by unfold scR; omega)]
      unfold plX
      rw [ln3]
      have d1 : decide (nI i = nI i') = decide (i' = i) := by
        by_cases h : i' = i
        · rw [h, decide_eq_true rfl, decide_eq_true rfl]
        · rw [decide_eq_false h, decide_eq_false (fun q => h ((nI_eq (by omega) (by omega)).mp q).symm)]
      have d2 : decide (nI k = nI k') = decide (k' = k) := by
        by_cases h : k' = k
        · rw [h, decide_eq_true rfl, decide_eq_true rfl]
        · rw [decide_eq_false h, decide_eq_false (fun q => h ((nI_eq (by omega) (by omega)).mp q).symm)]
      rw [d1, d2]) (fun k hk => Or.inr ⟨by rw [e40]; decide, hk, by rw [c2n 1 (by decide) (by unfold scR; omega)]⟩) (fun _ => Nat.le_refl _) (by decide)
    have hM : RMem B2 z 0 (fun _ => (0, 0, 0, true)) B2 := by
      refine ⟨fun _ _ => rfl, fun j hj => ?_⟩
      have := (begin12_M (G := H) (n := z) (B := bgR H z) (fun _ _ => rfl)).2 j hj
      rw [hB2, up2_o (Or.inl (by decide)), up2_o (Or.inl (by decide)), up2_o (b := 19) (Or.inl (by decide)), up2_o (b := 19) (Or.inl (by decide)), up2_o (b := 20) (Or.inl (by decide)), up2_o (b := 20) (Or.inl (by decide))]
      exact ⟨this.1, this.2.1, this.2.2.1, Or.inl ⟨rfl, rfl⟩⟩
    obtain ⟨Gx', u1, u2⟩ := bad12 (ls := 99) (lk := 0) (last := last) hC2 (Or.inr ⟨e36, by omega⟩) hM (by rw [c20 1 (by omega)]; exact l3) l2
    refine ⟨Gx', ?_, fun b h0 hb => by rw [u2 b hb, c2n b h0 hb], fun j hj => by rw [u2 0 (by unfold scR; omega), c20 j hj]⟩
    rw [u1, bad_cg (B := bgR G' z) (fun b q1 q2 => by rw [c2n b (by omega) (by unfold scR; omega), b1 b q1 (by omega)]) (by rw [c20 2 (by omega), bgR_0 (by decide)])]) (H0 := Gz') (fun b h0 hb => by rw [y2 b hb, bgR_sc h0 hb]) (fun j hj => by rw [y2 0 (by unfold scR; omega), bgR_0 (by omega)])
  rw [ew, p5, bndP3_e, h1, bndO_e, g1, bndP_e, begin12 hz hsg.2.2.1, bndO_e, y1, bndP_e, k1, k3]
  refine ⟨Hz, L1, O1, Hz', _, rfl, rfl, p13, hR.run (fun b hb => ?_) (fun b h0 hb => k4 b h0 (fun q => hb (Or.inl q))) k5 ⟨some (2000 + 4 * r), Or.inr hO1⟩⟩
  have hb' := hb
  unfold scC at hb'
  rw [k2 b (fun q => hb (q.elim Or.inl (fun h => Or.inr (Or.inl h)))), h2 b (by omega), p12 b (fun q => hb (q.elim Or.inl (fun h => Or.inr (Or.inl h))))]
