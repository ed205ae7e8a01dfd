theorem held_eq (x : Int32) : (if (0 : Int32) < (if x < 99 then x else 99) then (if x < 99 then x else 99) else 0) = f_X12_held x 99 := by
  unfold f_X12_held
  have t0 : (0 : Int32).toInt = 0 := rfl
  have t99 : (99 : Int32).toInt = 99 := rfl
  by_cases h : x < 99
  · rw [if_pos h]
    have h' := Int32.lt_iff_toInt_lt.mp h
    by_cases h0 : 0 < x
    · rw [if_pos h0, if_pos (Int32.le_of_lt h0), if_pos (Int32.le_of_lt h)]
    · rw [if_neg h0]
      by_cases h1 : 0 ≤ x
      · have : x = 0 := Int32.le_antisymm (Int32.not_lt.mp h0) h1
        subst this
        rfl
      · rw [if_neg h1]
  · rw [if_neg h, if_pos (by decide)]
    have h99 : 99 ≤ x := Int32.not_lt.mp h
    have hx := Int32.le_iff_toInt_le.mp h99
    rw [if_pos (Int32.le_iff_toInt_le.mpr (by omega))]
    by_cases h2 : x ≤ 99
    · rw [if_pos h2]
      exact Int32.le_antisymm h99 h2
    · rw [if_neg h2]
theorem held_rg (x : Int32) : ∃ a, a ≤ 99 ∧ f_X12_held x 99 = nI a := by
  unfold f_X12_held
  by_cases h : 0 ≤ x
  · rw [if_pos h]
    by_cases h2 : x ≤ 99
    · rw [if_pos h2]
      obtain ⟨j, hj, e⟩ := nI_of2 (M := 99) (n := 99) rfl (Int32.not_lt.mpr h) h2
      exact ⟨j, hj, e⟩
    · rw [if_neg h2]
      exact ⟨99, by decide, rfl⟩
  · rw [if_neg h]
    exact ⟨0, by decide, rfl⟩
def fT (B : Mem) (k : Nat) : Nat → Int32 := fun j => if j = 1 then B 1 k else if j = 2 then nI k else 0
noncomputable def woS (B : Mem) (ev : Nat → (Nat → Int32) → Int32) (k : Nat) : Int32 := f_X12_held (ev 2 (fT B k)) 99
/-- what is bad of one step, voice by voice -/
noncomputable def badV (B : Mem) (wo : Int32) (n : Nat) (st : Nat → Sg) (th : Nat → Int32) (s : Int64) : Nat → Int64
  | 0 => s
  | v + 1 => if th v ≤ B 0 2 then badV B wo n st th s v else badV B wo n st th s v + wo.toInt64 * (B 4 v - nI (cntV B n st v)).toInt64
noncomputable def badK (B : Mem) (ev : Nat → (Nat → Int32) → Int32) (way : Int32) (lo : Nat → Int32) (pl : Nat → Nat → Bool) (n ls lk : Nat) : Nat → Int64
  | 0 => 0
  | k + 1 => badV B (woS B ev k) n (runS B ev way lo pl n ls lk (k + 1)) (thS B ev way lo pl n ls lk (k + 1)) (badK B ev way lo pl n ls lk k) 4
theorem CxC.tr {C : Mem} {L L2 : MemL} {O : MemO} {S : Nat → Nat} {B : Mem} {ev : Nat → (Nat → Int32) → Int32} {w r : Nat} {pl pl2 : Nat → Nat → Bool} {n km ls lk : Nat} (h : CxC C L O S B ev w r pl n km ls lk) {C2 B2 : Mem} {ls2 lk2 : Nat} (h1 : ∀ b, b = 103 ∨ b = 105 ∨ (1000 ≤ b ∧ b < 2000) ∨ (2000 ≤ b ∧ b % 4 ≠ 3) → C2 b = C b) (h10 : C2 128 10 = C 128 10) (h11 : C2 128 11 = C 128 11) (h14 : (C2 128 14 = nI ls2 ∧ C2 128 15 = nI lk2 ∧ ls2 < 10 ∧ lk2 < 48) ∨ (C2 128 14 = -1 ∧ n ≤ ls2)) (hB : ∀ b, b = 2 ∨ b = 4 ∨ b = 5 ∨ b = 7 ∨ b = 8 ∨ b = 9 → B2 b = B b) (h106 : ∀ i, i < n → C2 106 i = B2 6 i ∧ rgB (B2 6 i) 4) (h134 : ∀ v, v < 4 → C2 134 v = msk (fun i => decide (B2 6 i = nI v)) n) (hpl : ¬ f_X12_in (nI w) 2 5 = 0 → ∀ i k, i < n → k < km → (lg_cmp (((L2 133 i) >>> ((nI k).toInt64 &&& 63)) - ((L2 133 i) >>> ((nI k).toInt64 &&& 63)) / 2 * 2) 1 = 0 ↔ pl2 i k = true)) : CxC C2 L2 O S B2 ev w r pl2 n km ls2 lk2 := by
  obtain ⟨hn, hw, c10, c11, c14, csg, cbar, cle, cme, ⟨cr1, cr2, cr3⟩, ckm, cpl, ckm2⟩ := h
  refine ⟨hn, hw, by rw [h10]; exact c10, by rw [h11]; exact c11, h14, fun i hi => ?_, fun k hk => ?_, fun v hv => ?_, h134, ⟨cr1, cr2, fun p hp G f a1 a2 a3 => cr3 p hp G f (by rw [a1, h1 _ (by omega)]) (by rw [a2, h1 _ (by omega)]) a3⟩, ckm, hpl, ckm2⟩
  · obtain ⟨s1, s2, s3, s4, s5, s6, s7, s8, s9⟩ := csg i hi
    rw [hB 5 (by omega), hB 7 (by omega), hB 8 (by omega), hB 9 (by omega), h1 (1000 + i) (by omega)]
    exact ⟨s1, s2, s3, s4, s5, s6, s7, (h106 i hi).1, (h106 i hi).2⟩
  · rw [h1 103 (by omega), hB 2 (by omega)]
    exact cbar k hk
  · rw [h1 105 (by omega), hB 4 (by omega)]
    exact cle v hv
/-- the reference's sum -/
theorem bad12 {B : Mem} {ev : Nat → (Nat → Int32) → Int32} {w : Nat} {lo : Nat → Int32} {pl : Nat → Nat → Bool} {n ls lk last : Nat} {G : Mem} (hC : CxR B ev (nI w) lo pl n 48) (hls : lsR B n ls lk) (hG : RMem B n 0 (fun _ => (0, 0, 0, true)) G) (hl : B 0 1 = nI last) (hl48 : last ≤ 48) : ∃ Gz, f_X12_badOf G (nI w) = some (Gz, badK B ev (nI w) lo pl n ls lk last) ∧ ∀ b, ¬ scR b → Gz b = B b := by
  have hn := hC.1
  have h7 := hC.2.1
  have hev := hC.2.2.2.2.2.1
  unfold f_X12_badOf
  rw [begT12, bndO_e]
  refine iter_fuel (q_X12_badOf_9 (nI w)) (fun k a => ∃ H : Mem, a = (H, badK B ev (nI w) lo pl n ls lk k, nI k) ∧ RMem B n k (runS B ev (nI w) lo pl n ls lk k) H ∧ ∀ v, v < 4 → H 23 v = thS B ev (nI w) lo pl n ls lk k v) (fun q => ∃ Gz, q = some (Gz, badK B ev (nI w) lo pl n ls lk last) ∧ ∀ b, ¬ scR b → Gz b = B b) last (by omega) ?_ ?_ ⟨_, rfl, hG.r23 (fun b hb => rpR_n hb), fun v hv => rpR_lt hv⟩
  · rintro k a hk ⟨H, rfl, e1, e2⟩ rec
    left
    unfold q_X12_badOf_9
    show ∃ a', _ ∧ (if H 0 1 ≤ nI k then _ else _) = rec a'
    obtain ⟨Gy, y1, y2, y3⟩ := go12 (k := k) hC (by omega) hls e1
    have y2' : RMem B n (k + 1) (runS B ev (nI w) lo pl n ls lk (k + 1)) Gy := y2
    obtain ⟨Gx, x1, x2, x3, x4⟩ := lookT12 (th := thS B ev (nI w) lo pl n ls lk k) hn h7 (by omega) y2' (fun v hv => by rw [y3 23 (by decide)]; exact e2 v hv)
    have x4' : ∀ v, v < 4 → Gx 23 v = thS B ev (nI w) lo pl n ls lk (k + 1) v := x4
    rw [e1.1 0 (by unfold scR; omega), hl, if_neg (nI_ge hk (by omega)), y1, bndO_e, x1, bndO_e]
    -- the voices
    obtain ⟨rs, hrs⟩ : ∃ x, x = runS B ev (nI w) lo pl n ls lk (k + 1) := ⟨_, rfl⟩
    obtain ⟨ts, hts'⟩ : ∃ x, x = thS B ev (nI w) lo pl n ls lk (k + 1) := ⟨_, rfl⟩
    obtain ⟨s0, hs0⟩ : ∃ x, x = badK B ev (nI w) lo pl n ls lk k := ⟨_, rfl⟩
    have hbk : badK B ev (nI w) lo pl n ls lk (k + 1) = badV B (woS B ev k) n rs ts s0 4 := by rw [hrs, hts', hs0]; rfl
    rw [hbk, ← hrs, ← hts', ← hs0]
    rw [← hrs] at x2
    rw [← hts'] at x4'
    have inner := iter_fuel (q_X12_badOf_32 (nI w) rec) (fun v a => ∃ H2 : Mem, a = (H2, badV B (woS B ev k) n rs ts s0 v, nI k, nI v) ∧ RMem B n (k + 1) rs H2 ∧ ∀ u, u < 4 → H2 23 u = ts u) (fun q => ∃ a', (∃ H3 : Mem, a' = (H3, badV B (woS B ev k) n rs ts s0 4, nI (k + 1)) ∧ RMem B n (k + 1) rs H3 ∧ ∀ v, v < 4 → H3 23 v = ts v) ∧ q = rec a') 4 (by decide) ?_ ?_ (a := (Gx, s0, nI k, 0)) ⟨Gx, rfl, x2, x4'⟩
    · obtain ⟨a', h1, h2⟩ := inner
      exact ⟨a', h1, h2⟩
    · rintro v a hv ⟨H2, rfl, f1, f2⟩ rec2
      left
      unfold q_X12_badOf_32 f_X12_isHeard
      show ∃ a', _ ∧ (if (4 : Int32) ≤ nI v then _ else _) = rec2 a'
      rw [if_neg (show ¬ (4 : Int32) ≤ nI v from nI_ge (b := 4) hv (by decide)), chk_t (inB_n hv (by decide)), nI_clamp (by omega), f2 v hv, f1.1 0 (by unfold scR; omega)]
      by_cases hh : ts v ≤ B 0 2
      · rw [if_pos hh, bndO_e, if_pos rfl, bnd_e, nI_1]
        refine ⟨_, ⟨H2, rfl, f1, f2⟩, ?_⟩
        show rec2 (H2, badV B (woS B ev k) n rs ts s0 v, nI k, nI (v + 1)) = rec2 (H2, (if ts v ≤ B 0 2 then _ else _), nI k, nI (v + 1))
        rw [if_pos hh]
      rw [if_neg hh, bndO_e, if_neg i10]
      -- the six facts
      refine iter_fuel (q_X12_badOf_53 (nI w) rec rec2) (fun j a => ∃ H3 : Mem, a = (H3, badV B (woS B ev k) n rs ts s0 v, nI k, nI v, nI j) ∧ (∀ b, b ≠ 15 → H3 b = H2 b) ∧ ∀ u, u < j → H3 15 u = 0) (fun q => ∃ a', (∃ H4 : Mem, a' = (H4, badV B (woS B ev k) n rs ts s0 (v + 1), nI k, nI (v + 1)) ∧ RMem B n (k + 1) rs H4 ∧ ∀ u, u < 4 → H4 23 u = ts u) ∧ q = rec2 a') 6 (by decide) ?_ ?_ ⟨H2, rfl, fun _ _ => rfl, fun u hu => by omega⟩
      · rintro j a hj ⟨H3, rfl, g1, g2⟩ rec3
        left
        unfold q_X12_badOf_53
        show ∃ a', _ ∧ (if (6 : Int32) ≤ nI j then _ else _) = rec3 a'
        rw [if_neg (show ¬ (6 : Int32) ≤ nI j from nI_ge (b := 6) hj (by decide)), chk_t (inB_n hj (by decide)), bnd_e, bnd_e, nI_1, nI_clamp (by omega)]
        refine ⟨_, ⟨_, rfl, off_up g1, fun u hu => ?_⟩, rfl⟩
        by_cases huj : u = j
        · rw [huj, up2_aa]
        · rw [up2_an _ _ _ huj]
          exact g2 u (by omega)
      · rintro a ⟨H3, rfl, g1, g2⟩ rec3
        unfold q_X12_badOf_53
        show ∃ a', _ ∧ (if (6 : Int32) ≤ nI 6 then _ else _) = rec2 a'
        have r3 : ∀ b, b ≠ 15 → ¬ scR b → H3 b = B b := fun b h1 h2 => by rw [g1 b h1]; exact f1.1 b h2
        rw [if_pos (show (6 : Int32) ≤ nI 6 by decide), chk_t (inB_n (show k < 48 by omega) (by decide)), bnd_e, bnd_e, nI_clamp (by omega), r3 1 (by decide) (by unfold scR; omega), show (1 : Int32).toNatClampNeg = 1 from rfl, show (2 : Int32).toNatClampNeg = 2 from rfl]
        obtain ⟨H4, hH4⟩ : ∃ x, x = up2 (up2 H3 15 1 (B 1 k)) 15 2 (nI k) := ⟨_, rfl⟩
        rw [← hH4]
        have r4 : ∀ b, b ≠ 15 → H4 b = H2 b := fun b hb => by rw [hH4, up2_n _ _ _ hb, up2_n _ _ _ hb]; exact g1 b hb
        have r4B : ∀ b, b ≠ 15 → ¬ scR b → H4 b = B b := fun b h1 h2 => by rw [r4 b h1]; exact f1.1 b h2
        have hf4 : ∀ j, j < 6 → H4 15 j = fT B k j := by
          intro j hj
          rw [hH4]
          unfold fT
          by_cases j2 : j = 2
          · subst j2; rw [up2_aa]; rfl
          · rw [up2_an _ _ _ j2]
            by_cases j1 : j = 1
            · subst j1; rw [up2_aa]; rfl
            · rw [up2_an _ _ _ j1, g2 j hj, if_neg j1, if_neg j2]
        obtain ⟨H5, q1, q2⟩ := hev 2 (by decide) H4 (fT B k) (r4B 0 (by decide) (by unfold scR; omega)) (r4B 11 (by decide) (by unfold scR; omega)) (r4B 12 (by decide) (by unfold scR; omega)) (r4B 13 (by decide) (by unfold scR; omega)) hf4
        have m5 : RMem B n (k + 1) rs H5 := by
          refine ⟨fun b hb => ?_, fun i hi => ?_⟩
          · have hb' := hb
            unfold scR at hb'
            rw [q2 b (by omega)]
            exact r4B b (by omega) hb
          · rw [q2 18 (by decide), q2 19 (by decide), q2 20 (by decide), q2 21 (by decide), r4 18 (by decide), r4 19 (by decide), r4 20 (by decide), r4 21 (by decide)]
            exact f1.2 i hi
        rw [show f_X12_gives H4 2 = some (H5, ev 2 (fT B k)) from q1, bndP_e, chk_t (inB_n hv (by decide)), ofV12 hn h7 (by omega) m5, bndO_e, bnd_e, bnd_e, nI_1, nI_clamp (by omega), m5.1 4 (by unfold scR; omega)]
        refine ⟨_, ⟨H5, rfl, m5, fun u hu => ?_⟩, ?_⟩
        · rw [q2 23 (by decide), r4 23 (by decide)]
          exact f2 u hu
        · show rec2 (H5, badV B (woS B ev k) n rs ts s0 v + (woS B ev k).toInt64 * (B 4 v - nI (cntV B n rs v)).toInt64, nI k, nI (v + 1)) = rec2 (H5, (if ts v ≤ B 0 2 then _ else _), nI k, nI (v + 1))
          rw [if_neg hh]
    · rintro a ⟨H2, rfl, f1, f2⟩ rec2
      unfold q_X12_badOf_32
      show ∃ a', _ ∧ (if (4 : Int32) ≤ nI 4 then _ else _) = rec a'
      rw [if_pos (show (4 : Int32) ≤ nI 4 by decide), bnd_e, nI_1]
      exact ⟨_, ⟨H2, rfl, f1, f2⟩, rfl⟩
  · rintro a ⟨H, rfl, e1, e2⟩ rec
    unfold q_X12_badOf_9
    show ∃ Gz, (if H 0 1 ≤ nI last then _ else _) = some (Gz, _) ∧ _
    rw [e1.1 0 (by unfold scR; omega), hl, if_pos (nI_le (Nat.le_refl _) (by omega))]
    exact ⟨H, rfl, e1.1⟩
/-- the class's weights -/
theorem weigh11 {C : Mem} {L : MemL} {O : MemO} {S : Nat → Nat} {B : Mem} {ev : Nat → (Nat → Int32) → Int32} {w r : Nat} {pl : Nat → Nat → Bool} {n km ls lk last : Nat} (hC : CxC C L O S B ev w r pl n km ls lk) (hl : C 101 5 = nI last) (hl48 : last ≤ 48) (h102 : ∀ k, k < 48 → C 102 k = B 1 k) : ∃ Gz, f_X1_weigh C O S = some Gz ∧ (∀ b, ¬ (b = 129 ∨ b = 136 ∨ (2000 ≤ b ∧ b % 4 = 3)) → Gz b = C b) ∧ ∀ k, k < last → Gz 136 k = woS B ev k := by
  obtain ⟨hn, hw, c10, c11, c14, csg, cbar, cle, cme, ⟨cr1, cr2, cr3⟩, ckm, cpl, ckm2⟩ := hC
  unfold f_X1_weigh
  refine iter_fuel (q_X1_weigh_2 O S) (fun k a => ∃ H : Mem, a = (H, nI k) ∧ (∀ b, ¬ (b = 129 ∨ b = 136 ∨ (2000 ≤ b ∧ b % 4 = 3)) → H b = C b) ∧ ∀ j, j < k → H 136 j = woS B ev j) (fun q => ∃ Gz, q = some Gz ∧ (∀ b, ¬ (b = 129 ∨ b = 136 ∨ (2000 ≤ b ∧ b % 4 = 3)) → Gz b = C b) ∧ ∀ k, k < last → Gz 136 k = woS B ev k) last (by omega) ?_ ?_ ⟨C, rfl, fun _ _ => rfl, fun j hj => by omega⟩
  · rintro k a hk ⟨H, rfl, e1, e2⟩ rec
    left
    unfold q_X1_weigh_2
    show ∃ a', _ ∧ (if H 101 5 ≤ nI k then _ else _) = rec a'
    have hb48 : inB (nI k) 48 = true := inB_n (by omega) (by decide)
    rw [e1 101 (by omega), hl, if_neg (nI_ge hk (by omega)), chk_t hb48, nI_clamp (by omega), e1 102 (by omega), h102 k (by omega), listen11, bndO_e, cr1, bndO_e, chk_t cr2]
    obtain ⟨H1, hH1⟩ : ∃ x, x = up2 (up2 (rpR H 129 6 (fun _ => 0)) 129 1 (B 1 k)) 129 2 (nI k) := ⟨_, rfl⟩
    rw [← hH1]
    have r1 : ∀ b, b ≠ 129 → H1 b = H b := fun b hb => by rw [hH1, up2_n _ _ _ hb, up2_n _ _ _ hb, rpR_n hb]
    have hf1 : ∀ j, j < 6 → H1 129 j = fT B k j := by
      intro j hj
      rw [hH1]
      unfold fT
      by_cases j2 : j = 2
      · subst j2; rw [up2_aa]; rfl
      · rw [up2_an _ _ _ j2]
        by_cases j1 : j = 1
        · subst j1; rw [up2_aa]; rfl
        · rw [up2_an _ _ _ j1, rpR_lt hj, if_neg j1, if_neg j2]
    obtain ⟨H2, q1, q2⟩ := cr3 2 (by decide) H1 (fT B k) (by rw [r1 _ (by omega), e1 _ (by omega)]) (by rw [r1 _ (by omega), e1 _ (by omega)]) hf1
    rw [show f_X9_valueOf H1 S (2000 + 4 * r) 2 = some (H2, ev 2 (fT B k)) from q1, bndP_e, chk_t hb48, bnd_e, bnd_e, nI_1, held_eq]
    refine ⟨_, ⟨_, rfl, fun b hb => ?_, fun j hj => ?_⟩, rfl⟩
    · rw [up2_n _ _ _ (by omega), q2 b (by omega), r1 b (by omega)]
      exact e1 b hb
    · by_cases hjk : j = k
      · rw [hjk, up2_aa]
        rfl
      · rw [up2_an _ _ _ hjk, q2 136 (by omega), r1 136 (by decide)]
        exact e2 j (by omega)
  · rintro a ⟨H, rfl, e1, e2⟩ rec
    unfold q_X1_weigh_2
    show ∃ Gz, (if H 101 5 ≤ nI last then _ else _) = some Gz ∧ _
    rw [e1 101 (by omega), hl, if_pos (nI_le (Nat.le_refl _) (by omega))]
    exact ⟨H, rfl, e1, e2⟩
/-- the class's sum: P is the memory ahead of start -/
theorem bad11 {C P : Mem} {L L2 : MemL} {O : MemO} {S : Nat → Nat} {B0 B : Mem} {ev : Nat → (Nat → Int32) → Int32} {w r : Nat} {lo : Nat → Int32} {pl0 pl : Nat → Nat → Bool} {n ls0 lk0 ls lk last : Nat} (hC : CxC C L O S B0 ev w r pl0 n 48 ls0 lk0) (h1 : ∀ b, b = 103 ∨ b = 105 ∨ (1000 ≤ b ∧ b < 2000) ∨ (2000 ≤ b ∧ b % 4 ≠ 3) → P b = C b) (h10 : P 128 10 = C 128 10) (h11 : P 128 11 = C 128 11) (h14 : (P 128 14 = nI ls ∧ P 128 15 = nI lk ∧ ls < 10 ∧ lk < 48) ∨ (P 128 14 = -1 ∧ n ≤ ls)) (hB : ∀ b, b = 2 ∨ b = 4 ∨ b = 5 ∨ b = 7 ∨ b = 8 ∨ b = 9 → B b = B0 b) (h106 : ∀ i, i < n → P 106 i = B 6 i ∧ rgB (B 6 i) 4) (hpl : ¬ f_X12_in (nI w) 2 5 = 0 → ∀ i k, i < n → k < 48 → (lg_cmp (((L2 133 i) >>> ((nI k).toInt64 &&& 63)) - ((L2 133 i) >>> ((nI k).toInt64 &&& 63)) / 2 * 2) 1 = 0 ↔ pl i k = true)) (hl : P 101 5 = nI last) (hl48 : last ≤ 48) (h102 : ∀ k, k < 48 → P 102 k = lo k) (hlo : ∀ k, B 1 k = lo k) (he : P 101 6 = B 0 2) (heB : rgB (B 0 2) 6) (hle : ∀ v, v < 4 → rgB (B 4 v) 10) (h136 : ∀ k, k < last → P 136 k = woS B ev k) : ∃ Gz, f_X1_badOfAll P L2 O S = some (Gz, badK B ev (nI w) lo pl n ls lk last) ∧ (∀ b, ¬ (scC b ∨ b = 134) → Gz b = P b) ∧ ∀ j, j ≠ 13 → Gz 128 j = P 128 j := by
  have hn := hC.1
  have c11 := hC.2.2.2.1
  obtain ⟨C2, st0, s1, s2, s3, s4, s5⟩ := start11 (G := P) (B := B) hn (h11.trans c11) h106
  have hC2 : CxC C2 L2 O S B ev w r pl n 48 ls lk := by
    refine hC.tr (fun b hb => by rw [s1 b (by omega)]; exact h1 b hb) (by rw [s2 10 (by decide)]; exact h10) (by rw [s2 11 (by decide)]; exact h11) (by rw [s2 14 (by decide), s2 15 (by decide)]; exact h14) hB (fun i hi => by rw [s1 106 (by decide)]; exact h106 i hi) (fun v hv => (s4 v hv).1) hpl
  have hM : CMem C2 n 0 ls lk (fun _ => (0, 0, 0, true)) (fun _ => 0) C2 := ⟨fun _ _ => rfl, fun _ _ => rfl, fun i hi _ => s3 i (by omega), s5, fun v hv => (s4 v hv).2⟩
  unfold f_X1_badOfAll
  rw [st0, bndO_e]
  refine iter_fuel (q_X1_badOfAll_8 L2 O S) (fun k a => ∃ H : Mem, a = (H, badK B ev (nI w) lo pl n ls lk k, nI k) ∧ CMem C2 n k ls lk (runS B ev (nI w) lo pl n ls lk k) (thS B ev (nI w) lo pl n ls lk k) H ∧ stOK n (runS B ev (nI w) lo pl n ls lk k)) (fun q => ∃ Gz, q = some (Gz, badK B ev (nI w) lo pl n ls lk last) ∧ (∀ b, ¬ (scC b ∨ b = 134) → Gz b = P b) ∧ ∀ j, j ≠ 13 → Gz 128 j = P 128 j) last (by omega) ?_ ?_ ⟨C2, rfl, hM, stOK_0⟩
  · rintro k a hk ⟨H, rfl, e1, e2⟩ rec
    left
    unfold q_X1_badOfAll_8
    show ∃ a', _ ∧ (if H 101 5 ≤ nI k then _ else _) = rec a'
    have hb48 : inB (nI k) 48 = true := inB_n (by omega) (by decide)
    have q101 : ∀ {G : Mem} {j st th}, CMem C2 n j ls lk st th G → G 101 = P 101 := fun h => by rw [h.1 101 (by unfold scC; omega), s1 101 (by decide)]
    rw [q101 e1, hl, if_neg (nI_ge hk (by omega)), chk_t hb48, nI_clamp (by omega), e1.1 102 (by unfold scC; omega), s1 102 (by decide), h102 k (by omega)]
    obtain ⟨Gz, g1, g2, g3⟩ := stepC (lo := lo) hC2 (show k < 48 by omega) e2 e1
    rw [g1, bndO_e]
    obtain ⟨rs, hrs⟩ : ∃ x, x = runS B ev (nI w) lo pl n ls lk (k + 1) := ⟨_, rfl⟩
    obtain ⟨ts, hts'⟩ : ∃ x, x = thS B ev (nI w) lo pl n ls lk (k + 1) := ⟨_, rfl⟩
    obtain ⟨s0, hs0⟩ : ∃ x, x = badK B ev (nI w) lo pl n ls lk k := ⟨_, rfl⟩
    have hbk : badK B ev (nI w) lo pl n ls lk (k + 1) = badV B (woS B ev k) n rs ts s0 4 := by rw [hrs, hts', hs0]; rfl
    have hts2 : ∀ v, ts v = if B 4 v ≤ nI (cntV B n rs v) then 0 else thS B ev (nI w) lo pl n ls lk k v + 1 := fun v => by rw [hrs, hts']; rfl
    rw [hbk, ← hrs, ← hts', ← hs0]
    rw [← hrs, ← hts'] at g2
    rw [← hrs] at g3
    have inner := iter_fuel (q_X1_badOfAll_36 L2 O S rec) (fun v a => a = (Gz, badV B (woS B ev k) n rs ts s0 v, nI k, nI v)) (fun q => q = rec (Gz, badV B (woS B ev k) n rs ts s0 4, nI (k + 1))) 4 (by decide) ?_ ?_ (a := (Gz, s0, nI k, 0)) rfl
    · exact ⟨_, ⟨Gz, rfl, g2, g3⟩, inner⟩
    · rintro v a hv rfl rec2
      refine Or.inl ⟨(Gz, badV B (woS B ev k) n rs ts s0 (v + 1), nI k, nI (v + 1)), rfl, ?_⟩
      unfold q_X1_badOfAll_36 f_X1_isHeard
      show (if (4 : Int32) ≤ nI v then _ else _) = _
      have hbv : inB (nI v) 4 = true := inB_n hv (by decide)
      have g105 : Gz 105 v = B 4 v := by rw [g2.1 105 (by unfold scC; omega)]; exact hC2.2.2.2.2.2.2.2.1 v hv
      have g134 : Gz 134 v = msk (fun i => decide (B 6 i = nI v)) n := by rw [g2.1 134 (by unfold scC; omega)]; exact hC2.2.2.2.2.2.2.2.2.1 v hv
      have g136 : Gz 136 k = woS B ev k := by rw [g2.1 136 (by unfold scC; omega), s1 136 (by decide)]; exact h136 k hk
      rw [if_neg (show ¬ (4 : Int32) ≤ nI v from nI_ge (b := 4) hv (by decide)), chk_t hbv, nI_clamp (show v < 2 ^ 31 by omega), g2.2.2.2.2 v hv, q101 g2, he]
      show _ = rec2 (Gz, (if ts v ≤ B 0 2 then _ else _), nI k, nI (v + 1))
      by_cases hh : ts v ≤ B 0 2
      · rw [if_pos hh, bndO_e, if_pos rfl, bnd_e, nI_1, if_pos hh]
      · rw [if_neg hh, bndO_e, if_neg i10, chk_t hb48, chk_t hbv, how11 (C := C2) hn hv g134 g2.2.2.2.1, bndO_e, bnd_e, bnd_e, nI_1, nI_clamp (show k < 2 ^ 31 by omega), g136, g105, if_neg hh]
        obtain ⟨b4, hb4, hb4e⟩ := hle v hv
        obtain ⟨ec, hec, hece⟩ := heB
        have hlt : ¬ B 4 v ≤ nI (cntV B n rs v) := by
          intro q
          apply hh
          rw [hts2 v, if_pos q, hece]
          exact nI_pos' (by omega)
        have hcl : cntV B n rs v ≤ n := cntB_le _ _
        have hlt2 : cntV B n rs v < b4 := by
          rw [hb4e] at hlt
          exact Nat.not_le.mp (fun q => hlt (nI_le q (by omega)))
        obtain ⟨wa, hwa, hwe⟩ := held_rg (ev 2 (fT B k))
        have hwo : woS B ev k = nI wa := hwe
        have hmul : wa * (b4 - cntV B n rs v) ≤ 99 * 10 := Nat.mul_le_mul hwa (by omega)
        rw [hwo, hb4e, subI (by omega), mulI, nI_l (show wa < 2 ^ 31 by omega), nI_l (show b4 - cntV B n rs v < 2 ^ 31 by omega), nI_l (by omega), lN_mul]
    · rintro a rfl rec2
      unfold q_X1_badOfAll_36
      show (if (4 : Int32) ≤ nI 4 then _ else _) = _
      rw [if_pos (show (4 : Int32) ≤ nI 4 by decide), bnd_e, nI_1]
  · rintro a ⟨H, rfl, e1, e2⟩ rec
    unfold q_X1_badOfAll_8
    show ∃ Gz, (if H 101 5 ≤ nI last then _ else _) = some (Gz, _) ∧ _
    rw [e1.1 101 (by unfold scC; omega), s1 101 (by decide), hl, if_pos (nI_le (Nat.le_refl _) (by omega))]
    refine ⟨H, rfl, fun b hb => ?_, fun j hj => ?_⟩
    · have hb' := hb
      unfold scC at hb'
      rw [e1.1 b (fun q => hb (Or.inl q)), s1 b (by omega)]
    · rw [e1.2.1 j hj, s2 j hj]
