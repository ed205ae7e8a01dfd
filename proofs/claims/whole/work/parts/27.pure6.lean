theorem cmp_lt (x y : Int64) : (lg_cmp x y < 0) ↔ x < y := by
  unfold lg_cmp
  by_cases h : x > y
  · rw [if_pos h]
    exact ⟨fun q => absurd q (by decide), fun q => absurd (Int64.lt_trans q h) (Int64.lt_irrefl)⟩
  · rw [if_neg h]
    by_cases h2 : x = y
    · rw [if_pos h2]
      exact ⟨fun q => absurd q (by decide), fun q => by rw [h2] at q; exact absurd q Int64.lt_irrefl⟩
    · rw [if_neg h2]
      refine ⟨fun _ => ?_, fun _ => by decide⟩
      have h3 : x ≤ y := Int64.not_lt.mp h
      exact Int64.lt_of_le_of_ne h3 h2
theorem wide_add (x : Int32) (j : Nat) (hj : j < 1000) : (x.toInt64 + lN j).toInt = x.toInt + (j : Int) := by
  have h1 := x.toInt_lt
  have h2 := x.le_toInt
  rw [Int64.toInt_add, Int32.toInt_toInt64, lN_toInt (by omega)]
  simp only [Int.bmod]
  omega
/-- where three places begin: both sides' test -/
theorem room3 (x : Int32) (k ln : Nat) (hk : k ≤ 10) (hln : ln ≤ 40) (G : Mem) (e : Nat) (he : G e 2 = nI ln) : (∃ a, a + 3 ≤ ln ∧ x + 3 * nI k = nI a ∧ f_X6_hasRoom G e (x + 3 * nI k) 3 = 1 ∧ ¬ lg_cmp (x.toInt64 + (3 * nI k).toInt64) 0 < 0 ∧ lg_cmp (x.toInt64 + (3 * nI k).toInt64 + 2) (lN ln) < 0 ∧ x.toInt64 + (3 * nI k).toInt64 = lN a) ∨ (f_X6_hasRoom G e (x + 3 * nI k) 3 = 0 ∧ (lg_cmp (x.toInt64 + (3 * nI k).toInt64) 0 < 0 ∨ (¬ lg_cmp (x.toInt64 + (3 * nI k).toInt64) 0 < 0 ∧ ¬ lg_cmp (x.toInt64 + (3 * nI k).toInt64 + 2) (lN ln) < 0))) := by
  have h3 : (3 : Int32) * nI k = nI (3 * k) := by rw [show (3 : Int32) = nI 3 from rfl, mulI]
  rw [h3, nI_l (show 3 * k < 2 ^ 31 by omega)]
  have hw := wide_add x (3 * k) (by omega)
  have hw2 : (x.toInt64 + lN (3 * k) + 2).toInt = x.toInt + (3 * k : Nat) + 2 := by
    have h1 := x.toInt_lt
    have h2 := x.le_toInt
    rw [Int64.toInt_add, hw, show (2 : Int64).toInt = 2 from rfl]
    simp only [Int.bmod]
    omega
  have hx : (x + nI (3 * k)).toInt = (x.toInt + (3 * k : Nat)).bmod (2 ^ 32) := by
    rw [Int32.toInt_add, nI_toInt (by omega)]
  have hb1 := x.toInt_lt
  have hb2 := x.le_toInt
  rw [cmp_lt, cmp_lt, Int64.lt_iff_toInt_lt, Int64.lt_iff_toInt_lt, hw, hw2, lN_toInt (by omega), show (0 : Int64).toInt = 0 from rfl]
  rcases room11 G e ln hln he (x + nI (3 * k)) 3 with ⟨a, m, ha, hm, ham, hr⟩ | ⟨hr, hbad⟩
  · have hm3 : m = 3 := by
      have : nI 3 = nI m := hm
      exact ((nI_eq (by decide) (by omega)).mp this).symm
    subst hm3
    have hv : (x + nI (3 * k)).toInt = (a : Int) := by rw [ha]; exact nI_toInt (by omega)
    have hW : x.toInt + (3 * k : Nat) = (a : Int) := by
      rw [hx] at hv
      simp only [Int.bmod] at hv
      omega
    refine Or.inl ⟨a, ham, ha, hr, by omega, by omega, ?_⟩
    apply Int64.toInt_inj.mp
    rw [hw, lN_toInt (by omega)]
    exact hW
  · refine Or.inr ⟨hr, ?_⟩
    by_cases hn : x.toInt + (3 * k : Nat) < 0
    · exact Or.inl hn
    · refine Or.inr ⟨hn, fun hlt => ?_⟩
      have hv : (x + nI (3 * k)).toInt = x.toInt + (3 * k : Nat) := by
        rw [hx]
        simp only [Int.bmod]
        omega
      rcases hbad with h | h | ⟨a, m, ha, hm, hae, hme, hgt⟩
      · exact absurd h (by decide)
      · have := Int32.lt_iff_toInt_lt.mp h
        rw [hv, show (0 : Int32).toInt = 0 from rfl] at this
        omega
      · have hm3 : m = 3 := by
          have : nI 3 = nI m := hme
          exact ((nI_eq (by decide) hm).mp this).symm
        subst hm3
        rw [hae, nI_toInt ha] at hv
        omega
theorem singers_loop (x1 x2 x3 : Int32) (i m z t : Nat) (hi : i < 4) (hm : m ≤ 10) (hx1 : x1 = nI i) (L : MemL) (K : List Nat) (S0 : Nat → Nat) (hz : z ≤ 10) : ∀ (f k zk : Nat) (G : Mem) (O : MemO) (S : Nat → Nat) (N : List Nat) (G' : Mem) (came : Int32), k ≤ m → m - k < f → CI (K ++ N) S O zk t → RR zk t G L O S G' → ¬ G' 31 i = -1 → (∀ b, ¬ (1000 ≤ b ∧ b < 2000) → S b = S0 b) → (∀ e ∈ N, e < 1000 + zk) → z ≤ zk → ∃ (S1 : Nat → Nat) (G1 : Mem) (O1 : MemO) (N1 : List Nat) (z1 : Nat) (G1' : Mem) (v : Int32), iter (q_X11_singers_76 z x1 x2 x3 (nI m)) f (G, O, S, N, k, 120 + i, came, nI k) = some (S1, G1, O1, N1, v) ∧ iter (q_X12_singers_70 x1 x2 x3 (nI m)) f (G', came, nI k) = some (G1', v) ∧ (∀ b, ¬ (1000 ≤ b ∧ b < 2000) → S1 b = S0 b) ∧ CI (K ++ N1) S1 O1 z1 t ∧ RR z1 t G1 L O1 S1 G1' := by
  subst hx1
  intro f
  induction f with
  | zero => intro k zk G O S N G' came _ h; omega
  | succ f ih =>
    intro k zk G O S N G' came hk hf hCI hR h31 hS hN hzk
    have hzk10 := hR.1.1
    show ∃ (S1 : Nat → Nat) (G1 : Mem) (O1 : MemO) (N1 : List Nat) (z1 : Nat) (G1' : Mem) (v : Int32), q_X11_singers_76 z (nI i) x2 x3 (nI m) (iter (q_X11_singers_76 z (nI i) x2 x3 (nI m)) f) (G, O, S, N, k, 120 + i, came, nI k) = some (S1, G1, O1, N1, v) ∧ q_X12_singers_70 (nI i) x2 x3 (nI m) (iter (q_X12_singers_70 (nI i) x2 x3 (nI m)) f) (G', came, nI k) = some (G1', v) ∧ _
    generalize iter (q_X11_singers_76 z (nI i) x2 x3 (nI m)) f = rec1 at ih ⊢
    generalize iter (q_X12_singers_70 (nI i) x2 x3 (nI m)) f = rec2 at ih ⊢
    unfold q_X11_singers_76 q_X12_singers_70
    show ∃ (S1 : Nat → Nat) (G1 : Mem) (O1 : MemO) (N1 : List Nat) (z1 : Nat) (G1' : Mem) (v : Int32), chk (shE (120 + i)) (if nI m ≤ nI k then _ else _) = some (S1, G1, O1, N1, v) ∧ (if nI m ≤ nI k then _ else _) = some (G1', v) ∧ _
    rw [chk_t (shE_i hi)]
    by_cases hkm : k = m
    · subst hkm
      rw [if_pos (nI_le (Nat.le_refl _) (by omega)), if_pos (nI_le (Nat.le_refl _) (by omega))]
      exact ⟨S, G, O, N, zk, G', came, rfl, rfl, hS, hCI, hR⟩
    rw [if_neg (nI_ge (by omega) (by omega)), if_neg (nI_ge (by omega) (by omega)), bnd_e (x3 + 3 * nI k), bnd_e (x3.toInt64 + (3 * nI k).toInt64)]
    obtain ⟨q1, q2, q3⟩ := hR.2.2.2.2.2.2.1 i hi
    obtain ⟨q4, ln, hln, d1, d2, d3⟩ := q3.resolve_left h31
    have hb1 : inB (nI i) 4 = true := by exact inB_n hi (by decide)
    have hc1 : (nI i).toNatClampNeg = i := by exact nI_clamp (by omega)
    rw [chk_t hb1, hc1, d2, nI_l (show ln < 2 ^ 31 by omega)]
    rcases room3 x3 k ln (by omega) hln G (120 + i) d1 with ⟨a, ha, e1, e2, e3, e4, e5⟩ | ⟨e2, e3⟩
    rotate_left
    · refine ⟨S, G, O, N, zk, G', -12, by rw [e2, if_pos rfl], ?_, hS, hCI, hR⟩
      rcases e3 with e3 | ⟨e3, e4⟩
      · rw [if_pos e3]
      · rw [if_neg e3, if_neg e4]
    rw [e2, if_neg i10, if_neg e3, if_pos e4, e1, e5, lN_i, bnd_e (40 * nI i + nI a)]
    have ex : (40 : Int32) * nI i + nI a = nI (40 * i + a) := by
      rw [show (40 : Int32) = nI 40 from rfl, mulI, nI_add]
    have p1 : nI a + 1 = nI (a + 1) := nI_1 a
    have p2 : nI a + 2 = nI (a + 2) := nI_add a 2
    have p3 : nI (40 * i + a) + 1 = nI (40 * i + a + 1) := nI_1 _
    have p4 : nI (40 * i + a) + 2 = nI (40 * i + a + 2) := nI_add _ 2
    rw [ex, p1, p2, p3, p4]
    rw [chk_t (inB_n (show a < 40 by omega) (by decide)), chk_t (inB_n (show a + 1 < 40 by omega) (by decide)), chk_t (inB_n (show a + 2 < 40 by omega) (by decide)), chk_t (inB_n (show 40 * i + a < 160 by omega) (by decide)), chk_t (inB_n (show 40 * i + a + 1 < 160 by omega) (by decide)), chk_t (inB_n (show 40 * i + a + 2 < 160 by omega) (by decide))]
    rw [chk_t (decide_eq_true (show k + 1 ≤ 10 by omega)), bnd_e (1000 + (G 100 4).toNatClampNeg), hR.1.2.1, nI_clamp (show zk < 2 ^ 31 by omega)]
    have hen : enB z (1000 + zk) N = true := decide_eq_true ⟨by omega, by omega, fun hm => by have := hN _ hm; omega⟩
    rw [chk_t hen]
    rw [nI_clamp (show a < 2 ^ 31 by omega), nI_clamp (show a + 1 < 2 ^ 31 by omega), nI_clamp (show a + 2 < 2 ^ 31 by omega), nI_clamp (show 40 * i + a < 2 ^ 31 by omega), nI_clamp (show 40 * i + a + 1 < 2 ^ 31 by omega), nI_clamp (show 40 * i + a + 2 < 2 ^ 31 by omega)]
    have r0 : G (120 + i + 4) a = G' 33 (40 * i + a) := by rw [show 120 + i + 4 = 124 + i by omega]; exact d3 a (by omega)
    have r1 : G (120 + i + 4) (a + 1) = G' 33 (40 * i + a + 1) := by rw [show 120 + i + 4 = 124 + i by omega]; exact d3 (a + 1) (by omega)
    have r2 : G (120 + i + 4) (a + 2) = G' 33 (40 * i + a + 2) := by rw [show 120 + i + 4 = 124 + i by omega]; exact d3 (a + 2) (by omega)
    rw [r0, r1, r2]
    obtain ⟨S1, G1, O1, nz, G1', v, f1, f2, hR1, h311⟩ := ag_singer_f zk t G L O S G' (G' 33 (40 * i + a)) (G' 33 (40 * i + a + 1)) (G' 33 (40 * i + a + 2)) hR
    have hC1 := (CI_singer hCI (by omega) f1).1
    rw [← app_if] at hC1
    rw [f1, f2, bndP_e]
    have hb5 : ∀ (g : (Nat → Nat) → Mem → MemO → Nat → Int32 → Option ((Nat → Nat) × Mem × MemO × List Nat × Int32)), bndP5 (some (S1, G1, O1, nz, v)) g = g S1 G1 O1 nz v := fun _ => rfl
    rw [hb5]
    simp only [bnd_e, nI_1]
    have hS1 : ∀ b, ¬ (1000 ≤ b ∧ b < 2000) → S1 b = S0 b := by
      intro b hb
      rcases singer_cases f1 with ⟨c1, c2, c3⟩ | ⟨c1, c2, c3⟩
      · rw [c2]; exact hS b hb
      · rw [c2, upS_n (by omega)]; exact hS b hb
    have hnz : nz = 0 ∨ nz = 1 := by
      rcases singer_cases f1 with ⟨c1, -⟩ | ⟨c1, -⟩
      · exact Or.inl c1
      · exact Or.inr c1
    have hN1 : ∀ e ∈ (if nz = 1 then N ++ [1000 + zk] else N), e < 1000 + (zk + nz) := by
      intro e he
      rcases hnz with h | h
      · subst h
        rw [if_neg (by decide)] at he
        exact hN e he
      · subst h
        rw [if_pos rfl] at he
        rcases List.mem_append.mp he with he | he
        · have := hN e he; omega
        · have := List.mem_singleton.mp he; omega
    have h31' : ¬ G1' 31 i = -1 := by rw [h311]; exact h31
    by_cases hv : v < 0
    · rw [if_pos hv, if_pos hv]
      exact ih (k + 1) (zk + nz) G1 O1 S1 _ G1' came (by omega) (by omega) hC1 hR1 h31' hS1 hN1 (by omega)
    · rw [if_neg hv, if_neg hv]
      exact ih (k + 1) (zk + nz) G1 O1 S1 _ G1' (came + 1) (by omega) (by omega) hC1 hR1 h31' hS1 hN1 (by omega)
theorem ag_singers : Ag_singers RR := by
  intro K z t G L O S G' x1 x2 x3 x4 hCI hR
  obtain ⟨hsg, hpc, hla, hke, htx, htp, hsh, hco⟩ := id hR
  have same : ∀ {A : Option ((Nat → Nat) × Mem × MemO × List Nat × Int32)} {B : Option (Mem × Int32)} (v : Int32), A = some (S, G, O, [], v) → B = some (G', v) → ∃ (S1 : Nat → Nat) (G1 : Mem) (O1 : MemO) (N : List Nat) (z1 : Nat) (G1' : Mem) (v : Int32), A = some (S1, G1, O1, N, v) ∧ B = some (G1', v) ∧ (∀ b, ¬ (1000 ≤ b ∧ b < 2000) → S1 b = S b) ∧ CI (K ++ N) S1 O1 z1 t ∧ RR z1 t G1 L O1 S1 G1' := fun v h1 h2 => ⟨S, G, O, [], z, G', v, h1, h2, fun _ _ => rfl, by rw [List.append_nil]; exact hCI, hR⟩
  unfold f_X11_singers f_X12_singers j_X12_singers_52
  rcases sh_rng x1 with ⟨i, hi, rfl, ho, his, hb, hc⟩ | ⟨ho, his⟩
  rotate_left
  · exact same (-2) (by rw [ho, if_neg i10]) (by rw [his, if_pos rfl])
  rw [ho, his, if_pos rfl, if_neg i10]
  rcases rng x2 3 2 3 (by decide) rfl (by decide) with ⟨s, hs, rfl, ho2, hi2⟩ | ⟨ho2, hi2, -⟩
  rotate_left
  · exact same (-2) (by rw [ho2, if_neg i10]) (by rw [hi2, if_pos rfl])
  rw [ho2, hi2, if_pos rfl, if_neg i10]
  unfold f_X12_in
  by_cases h0 : x4 < 0
  · exact same (-2) (by rw [if_pos h0]) (by rw [if_pos h0, if_pos rfl])
  by_cases h10 : 10 < x4
  · exact same (-2) (by rw [if_neg h0, if_neg (Int32.not_le.mpr h10)]) (by rw [if_neg h0, if_pos h10, if_pos rfl])
  obtain ⟨m, hm, rfl⟩ := nI_of2 (M := 10) (n := 10) rfl h0 (Int32.not_lt.mp h10)
  obtain ⟨q1, q2, q3⟩ := hsh i hi
  rw [if_neg h0, if_pos (Int32.not_lt.mp h10), if_neg h0, if_neg h10, if_neg i10, hc, chk_t hb, chk_t hb, chk_t hb, chk_t hb, q1, bndO_e, chk_t (shE_i hi), q2]
  rcases srt (q3.imp id (fun q => q.1)) with ⟨a1, a2, a3⟩ | ⟨a1, a2, a3⟩
  · refine same (-11) ?_ ?_
    · rw [if_neg (fun q => m11.mp q (q2.trans a1)), if_neg (fun q => m11.mp q (q2.trans a1))]
    · rw [if_pos a3, if_neg a2]
  have hm0 : f_X6_isMissing G (120 + i) = 0 := m11.mpr (by rw [q2]; exact a1)
  rw [if_pos hm0, if_pos hm0, if_neg a3, if_pos a2]
  by_cases hs2 : G' 31 i = nI s
  rotate_left
  · exact same (-13) (by rw [if_neg hs2]) (by rw [if_neg hs2])
  rw [if_pos hs2, if_pos hs2]
  obtain ⟨S1, G1, O1, N1, z1, G1', v, h1, h2, h3, h4, h5⟩ := singers_loop (nI i) (nI s) x3 i m z t hi hm rfl L K S hsg.1 fuel 0 z G O S [] G' 0 (by omega) (by unfold fuel; omega) (by rw [List.append_nil]; exact hCI) hR a1 (fun _ _ => rfl) (fun e he => by cases he) (Nat.le_refl _)
  exact ⟨S1, G1, O1, N1, z1, G1', v, h1, h2, h3, h4, h5⟩
