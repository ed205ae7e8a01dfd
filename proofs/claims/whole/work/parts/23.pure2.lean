theorem rg6 {x : Int32} (h : rgB x 6) : x = 0 ∨ x = 1 ∨ x = 2 ∨ x = 3 ∨ x = 4 ∨ x = 5 := by
  obtain ⟨k, hk, rfl⟩ := h
  rcases (show k = 0 ∨ k = 1 ∨ k = 2 ∨ k = 3 ∨ k = 4 ∨ k = 5 by omega) with rfl | rfl | rfl | rfl | rfl | rfl <;> decide
def capS (k h m often loud : Int32) : Int32 := bnd (if k = 1 then (h - loud) + loud / 2 else if k = 2 then (h - loud) - often else if k = 3 then ((h - loud) - often) - m else if k = 4 then ((h - loud) + loud / 2) + m else if k = 5 then (h - loud) / 2 else h - loud) (fun c => if 1 ≤ c then c else 1)
def tkS (k b often : Int32) : Int32 := if k = 5 then 2 * b else if k = 2 ∨ k = 3 then (if often < 3 then b else b + 1) else b
def saS (k m loud : Int32) : Int32 := if k = 5 then 1 else if k = 1 then 0 else if k = 4 then 0 else if k = 3 ∧ 5 ≤ loud then 0 else if m - m / 2 * 2 = 0 then 1 else 0
theorem max1 (c : Int32) : (if (1 : Int32) < c then c else 1) = if 1 ≤ c then c else 1 := by
  by_cases h : (1 : Int32) < c
  · rw [if_pos h, if_pos (Int32.le_of_lt h)]
  · rw [if_neg h]
    by_cases h2 : 1 ≤ c
    · rw [if_pos h2]
      exact Int32.le_antisymm h2 (Int32.not_lt.mp h)
    · rw [if_neg h2]
theorem cap12 (G : Mem) {x : Int32} {i : Nat} (hb : inB x 10 = true) (hc : x.toNatClampNeg = i) (o l : Int32) : f_X12_canHold G x o l = some (capS (G 5 i) (G 7 i) (G 8 i) o l) := by
  unfold f_X12_canHold j_X12_canHold_119 capS
  simp only [chk_t hb, bnd_e, hc]
  by_cases h1 : G 5 i = 1
  · simp only [h1, if_true]
    split <;> simp_all
  by_cases h2 : G 5 i = 2
  · simp only [if_neg h1, if_pos h2]
    split <;> rfl
  by_cases h3 : G 5 i = 3
  · simp only [if_neg h1, if_neg h2, if_pos h3]
    split <;> rfl
  by_cases h4 : G 5 i = 4
  · simp only [if_neg h1, if_neg h2, if_neg h3, if_pos h4]
    split <;> rfl
  by_cases h5 : G 5 i = 5
  · simp only [if_neg h1, if_neg h2, if_neg h3, if_neg h4, if_pos h5]
    split <;> rfl
  simp only [if_neg h1, if_neg h2, if_neg h3, if_neg h4, if_neg h5]
  split <;> rfl
theorem tk12 (G : Mem) {x : Int32} {i : Nat} (hb : inB x 10 = true) (hc : x.toNatClampNeg = i) (o : Int32) : f_X12_takes G x o = some (tkS (G 5 i) (G 9 i) o) := by
  unfold f_X12_takes j_X12_takes_39 tkS
  simp only [chk_t hb, hc]
  by_cases h1 : G 5 i = 5
  · simp only [if_pos h1]
  by_cases h2 : G 5 i = 2
  · simp only [if_neg h1, if_pos h2, if_pos (Or.inl h2 : G 5 i = 2 ∨ G 5 i = 3)]
    split <;> rfl
  by_cases h3 : G 5 i = 3
  · simp only [if_neg h1, if_neg h2, if_pos h3, if_pos (Or.inr h3 : G 5 i = 2 ∨ G 5 i = 3)]
    split <;> rfl
  simp only [if_neg h1, if_neg h2, if_neg h3, if_neg (fun q => Or.elim q h2 h3 : ¬ (G 5 i = 2 ∨ G 5 i = 3))]
theorem sa12 (G : Mem) {x : Int32} {i : Nat} (hb : inB x 10 = true) (hc : x.toNatClampNeg = i) (l : Int32) : f_X12_doesSay G x l = some (saS (G 5 i) (G 8 i) l) := by
  unfold f_X12_doesSay j_X12_doesSay_49 saS
  simp only [chk_t hb, hc]
  by_cases h1 : G 5 i = 5
  · simp only [if_pos h1]
  by_cases h2 : G 5 i = 1
  · simp only [if_neg h1, if_pos h2]
  by_cases h3 : G 5 i = 4
  · simp only [if_neg h1, if_neg h2, if_pos h3]
  by_cases h4 : G 5 i = 3
  · by_cases h5 : 5 ≤ l
    · simp only [if_neg h1, if_neg h2, if_neg h3, if_pos h4, if_pos h5, if_pos (⟨h4, h5⟩ : G 5 i = 3 ∧ 5 ≤ l)]
    · simp only [if_neg h1, if_neg h2, if_neg h3, if_pos h4, if_neg h5, if_neg (fun q => h5 q.2 : ¬ (G 5 i = 3 ∧ 5 ≤ l))]
      split <;> rfl
  simp only [if_neg h1, if_neg h2, if_neg h3, if_neg h4, if_neg (fun q => h4 q.1 : ¬ (G 5 i = 3 ∧ 5 ≤ l))]
  split <;> rfl
theorem cap11 (G : Mem) {S : Nat → Nat} {e : Nat} {k : Int32} (hS : S e = kcl k) (hk : rgB k 6) (o l : Int32) : f_DcanHold G S e l o = capS k (G e 0) (G e 2) o l := by
  have key : f_DcanHold G S e l o = f_X7_canHold G S e l o := by
    unfold f_DcanHold
    split
    · rfl
    split
    · rfl
    split
    · rfl
    split
    · rfl
    split <;> rfl
  rw [key]
  unfold f_X7_canHold capS bnd
  rw [max1]
  have hr : f_Dreach G S e l o = if k = 1 then (G e 0 - l) + l / 2 else if k = 2 then (G e 0 - l) - o else if k = 3 then ((G e 0 - l) - o) - G e 2 else if k = 4 then ((G e 0 - l) + l / 2) + G e 2 else if k = 5 then (G e 0 - l) / 2 else G e 0 - l := by
    unfold f_Dreach
    rw [hS]
    rcases rg6 hk with rfl | rfl | rfl | rfl | rfl | rfl <;> rfl
  rw [hr]
theorem tk11 (G : Mem) {S : Nat → Nat} {e : Nat} {k : Int32} (hS : S e = kcl k) (hk : rgB k 6) (o : Int32) : f_DsilentSteps G S e o = tkS k (G e 1) o := by
  unfold f_DsilentSteps
  rw [hS]
  have h0 : ∀ a : Int32, a + f_X11_truth 0 = a := fun a => by show a + (0 : Int32) = a; exact Int32.add_zero a
  rcases rg6 hk with rfl | rfl | rfl | rfl | rfl | rfl
  · rfl
  · rfl
  · show (if o < 3 then G e 1 + f_X11_truth 0 else G e 1 + f_X11_truth 1) = if o < 3 then G e 1 else G e 1 + 1
    rw [h0]
    rfl
  · show (if o < 3 then G e 1 + f_X11_truth 0 else G e 1 + f_X11_truth 1) = if o < 3 then G e 1 else G e 1 + 1
    rw [h0]
    rfl
  · rfl
  · rfl
theorem sa11 (G : Mem) {S : Nat → Nat} {e : Nat} {k : Int32} (hS : S e = kcl k) (hk : rgB k 6) (l : Int32) : f_Dsays G S e l = saS k (G e 2) l := by
  unfold f_Dsays
  rw [hS]
  rcases rg6 hk with rfl | rfl | rfl | rfl | rfl | rfl
  · rfl
  · rfl
  · rfl
  · show (if 5 ≤ l then 0 else if f_X7_says G e l = 0 then 0 else 1) = if (3 : Int32) = 3 ∧ 5 ≤ l then 0 else if G e 2 - G e 2 / 2 * 2 = 0 then 1 else 0
    by_cases h : 5 ≤ l
    · rw [if_pos h, if_pos ⟨rfl, h⟩]
    · rw [if_neg h, if_neg (fun q => h q.2 : ¬ ((3 : Int32) = 3 ∧ 5 ≤ l))]
      unfold f_X7_says
      by_cases h2 : G e 2 - G e 2 / 2 * 2 = 0
      · rw [if_pos h2, if_neg i10]
      · rw [if_neg h2, if_pos rfl]
  · rfl
  · rfl
theorem kd11 {S : Nat → Nat} {e : Nat} {k : Int32} (hS : S e = kcl k) (hk : rgB k 6) : f_Dkind S e = k := by
  unfold f_Dkind
  rw [hS]
  rcases rg6 hk with rfl | rfl | rfl | rfl | rfl | rfl <;> rfl
theorem un11 {S : Nat → Nat} {e : Nat} {k x : Int32} (hS : S e = kcl k) (hk : rgB k 6) (hx : rgB x 6) : f_DisUnder S e x = f_X12_isUnder k x := by
  unfold f_DisUnder
  rw [hS]
  rcases rg6 hk with rfl | rfl | rfl | rfl | rfl | rfl <;> rcases rg6 hx with rfl | rfl | rfl | rfl | rfl | rfl <;> rfl
theorem sgE_k {S : Nat → Nat} {i : Nat} {k : Int32} (hi : i < 1000) (hS : S (1000 + i) = kcl k) (hk : rgB k 6) : sgE S (1000 + i) = true := by
  refine decide_eq_true ⟨by omega, by omega, ?_⟩
  rw [hS]
  rcases rg6 hk with rfl | rfl | rfl | rfl | rfl | rfl <;> decide
theorem ag_told : Ag_told RR := by
  intro z t G L O S G' x1 x2 x3 x4 hR
  obtain ⟨hsg, hpc, hla, hke, htx, htp, hsh, hco⟩ := id hR
  unfold f_X11_told f_X12_told
  rcases sg_rng hsg x1 with ⟨i, hi, hi10, rfl, ho, his, hb, hc⟩ | ⟨ho, his⟩
  rotate_left
  · exact ⟨-2, by rw [ho, if_neg i10], by rw [his, if_pos rfl], hR⟩
  rw [ho, his, if_pos rfl, if_neg i10]
  rcases rng x2 49 48 49 (by decide) rfl (by decide) with ⟨a, ha, rfl, ho2, hi2⟩ | ⟨ho2, hi2, -⟩
  rotate_left
  · exact ⟨-2, by rw [ho2, if_neg i10], by rw [hi2, if_pos rfl], hR⟩
  rw [ho2, hi2, if_pos rfl, if_neg i10]
  rcases rng x3 48 47 48 (by decide) rfl (by decide) with ⟨b, hb3, rfl, ho3, hi3⟩ | ⟨ho3, hi3, -⟩
  rotate_left
  · exact ⟨-2, by rw [ho3, if_neg i10], by rw [hi3, if_pos rfl], hR⟩
  rw [ho3, hi3, if_pos rfl, if_neg i10]
  obtain ⟨q1, q2, q3, q4, q5, q6, q7, q8, q9, q10, q11⟩ := hsg.2.2.2 i hi
  have hl := (hpc.1 b hb3).1
  rw [hc, q1, bndO_e, chk_t hb, chk_t (sgE_k (by omega) q2 q6), chk_t (inB_n hb3 (by decide)), nI_clamp (by omega), hl]
  simp only [bnd_e, kd11 q2 q6, cap11 G q2 q6, tk11 G q2 q6, sa11 G q2 q6, cap12 G' hb hc, tk12 G' hb hc, sa12 G' hb hc, chk_t hb, chk_t (inB_n hb3 (by decide : 48 < 2 ^ 31)), bndO_e, q3, q4, q5, q10]
  by_cases h0 : x4 = 0
  · exact ⟨G' 5 i, by rw [if_pos h0], by rw [if_pos h0], hR⟩
  by_cases h1 : x4 = 1
  · exact ⟨G' 6 i, by rw [if_neg h0, if_pos h1], by rw [if_neg h0, if_pos h1], hR⟩
  by_cases h2 : x4 = 2
  · exact ⟨_, by rw [if_neg h0, if_neg h1, if_pos h2], by rw [if_neg h0, if_neg h1, if_pos h2], hR⟩
  by_cases h3 : x4 = 3
  · exact ⟨_, by rw [if_neg h0, if_neg h1, if_neg h2, if_pos h3], by rw [if_neg h0, if_neg h1, if_neg h2, if_pos h3], hR⟩
  by_cases h4 : x4 = 4
  · refine ⟨f_X11_truth (saS (G' 5 i) (G' 8 i) (G' 1 b)), by rw [if_neg h0, if_neg h1, if_neg h2, if_neg h3, if_pos h4], ?_, hR⟩
    rw [if_neg h0, if_neg h1, if_neg h2, if_neg h3, if_pos h4]
    unfold f_X11_truth
    split <;> rfl
  by_cases h5 : x4 = 5
  · exact ⟨G' 7 i, by rw [if_neg h0, if_neg h1, if_neg h2, if_neg h3, if_neg h4, if_pos h5], by rw [if_neg h0, if_neg h1, if_neg h2, if_neg h3, if_neg h4, if_pos h5], hR⟩
  exact ⟨-2, by rw [if_neg h0, if_neg h1, if_neg h2, if_neg h3, if_neg h4, if_neg h5], by rw [if_neg h0, if_neg h1, if_neg h2, if_neg h3, if_neg h4, if_neg h5], hR⟩
theorem ag_taken : Ag_taken RR := by
  intro z t G L O S G' x1 x2 hR
  obtain ⟨hsg, hpc, hla, hke, htx, htp, hsh, hco⟩ := id hR
  unfold f_X11_taken f_X12_taken
  rcases rng x2 6 5 6 (by decide) rfl (by decide) with ⟨a, ha, rfl, ho2, hi2⟩ | ⟨ho2, hi2, -⟩
  rotate_left
  · exact ⟨-2, by rw [ho2, if_neg i10], by rw [hi2, if_pos rfl], hR⟩
  rw [ho2, hi2, if_pos rfl, if_neg i10]
  rcases sg_rng hsg x1 with ⟨i, hi, hi10, rfl, ho, his, hb, hc⟩ | ⟨ho, his⟩
  rotate_left
  · exact ⟨-11, by rw [ho, if_neg i10], by rw [his, if_pos rfl], hR⟩
  rw [ho, his, if_pos rfl, if_neg i10]
  obtain ⟨q1, q2, q3, q4, q5, q6, q7, q8, q9, q10, q11⟩ := hsg.2.2.2 i hi
  rw [hc, chk_t hb, q1, bndO_e, chk_t (sgE_k (by omega) q2 q6), chk_t hb, un11 q2 q6 ⟨a, ha, rfl⟩, chk_t hb, q5]
  by_cases h : f_X12_isUnder (G' 5 i) (nI a) = 0
  · exact ⟨-13, by rw [if_pos h], by rw [if_pos h], hR⟩
  · exact ⟨G' 8 i, by rw [if_neg h], by rw [if_neg h], hR⟩
/-- the sum of a row's first places -/
def sumR (f : Nat → Int32) : Nat → Int32
  | 0 => 0
  | n + 1 => sumR f n + f n
theorem sumR_congr {f g : Nat → Int32} {n : Nat} (h : ∀ j, j < n → f j = g j) : sumR f n = sumR g n := by
  induction n with
  | zero => rfl
  | succ n ih => show sumR f n + f n = sumR g n + g n; rw [ih (fun j hj => h j (by omega)), h n (by omega)]
theorem sum11 (G : Mem) (e n k : Nat) (hk : k ≤ n) (hn : n < 1000) : f_X11_sumOf G e n (nI k) = some (sumR (G e) k) := by
  refine iter_fuel _ (fun j a => a = (sumR (G e) j, nI j)) (fun r => r = some (sumR (G e) k)) k (by omega) ?_ ?_ rfl
  · rintro j a hj rfl rec
    refine Or.inl ⟨_, rfl, ?_⟩
    unfold q_X11_sumOf_4
    show (if nI k ≤ nI j then _ else _) = _
    rw [if_neg (nI_ge hj (by omega)), if_neg (nI_ge (by omega) (by omega)), chk_t (inB_n (by omega) (by omega)), bnd_e, bnd_e, nI_clamp (by omega), nI_1]
    rfl
  · rintro a rfl rec
    unfold q_X11_sumOf_4
    show (if nI k ≤ nI k then _ else _) = _
    rw [if_pos (nI_le (Nat.le_refl _) (by omega))]
theorem ag_count : Ag_count RR := by
  intro z t G L O S G' x1 hR
  obtain ⟨hsg, hpc, hla, hke, htx, htp, hsh, hco⟩ := id hR
  obtain ⟨k, hk1, hk2, hk⟩ := hla.1.2
  unfold f_X11_count f_X12_count
  by_cases h0 : x1 = 0
  · exact ⟨nI z, by rw [if_pos h0, hsg.2.1], by rw [if_pos h0, hsg.2.2.1], hR⟩
  rw [if_neg h0, if_neg h0]
  by_cases h1 : x1 = 1
  · exact ⟨G' 0 1, by rw [if_pos h1, hla.1.1], by rw [if_pos h1], hR⟩
  rw [if_neg h1, if_neg h1, hla.1.1]
  by_cases h2 : x1 = 2
  · refine ⟨sumR (G' 2) k, ?_, ?_, hR⟩
    · rw [if_pos h2, hk, sum11 G 103 48 k (by omega) (by omega), bndO_e, sumR_congr (fun j hj => (hpc.2.1 j (by omega)).1)]
    · rw [if_pos h2]
      refine iter_fuel _ (fun j a => a = (sumR (G' 2) j, nI j)) (fun r => r = some (sumR (G' 2) k)) k (by omega) ?_ ?_ rfl
      · rintro j a hj rfl rec
        refine Or.inl ⟨_, rfl, ?_⟩
        unfold q_X12_count_60
        show (if G' 0 1 ≤ nI j then _ else _) = _
        rw [hk, if_neg (nI_ge hj (by omega)), chk_t (inB_n (by omega) (by decide)), bnd_e, bnd_e, nI_clamp (by omega), nI_1]
        rfl
      · rintro a rfl rec
        unfold q_X12_count_60
        show (if G' 0 1 ≤ nI k then _ else _) = _
        rw [hk, if_pos (nI_le (Nat.le_refl _) (by omega))]
  rw [if_neg h2, if_neg h2]
  by_cases h3 : x1 = 3
  · refine ⟨sumR (G' 3) k, ?_, ?_, hR⟩
    · rw [if_pos h3, hk, sum11 G 104 48 k (by omega) (by omega), bndO_e, sumR_congr (fun j hj => (hpc.2.2.1 j (by omega)).1)]
    · rw [if_pos h3]
      refine iter_fuel _ (fun j a => a = (sumR (G' 3) j, nI j)) (fun r => r = some (sumR (G' 3) k)) k (by omega) ?_ ?_ rfl
      · rintro j a hj rfl rec
        refine Or.inl ⟨_, rfl, ?_⟩
        unfold q_X12_count_87
        show (if G' 0 1 ≤ nI j then _ else _) = _
        rw [hk, if_neg (nI_ge hj (by omega)), chk_t (inB_n (by omega) (by decide)), bnd_e, bnd_e, nI_clamp (by omega), nI_1]
        rfl
      · rintro a rfl rec
        unfold q_X12_count_87
        show (if G' 0 1 ≤ nI k then _ else _) = _
        rw [hk, if_pos (nI_le (Nat.le_refl _) (by omega))]
  rw [if_neg h3, if_neg h3]
  by_cases h4 : x1 = 4
  · exact ⟨nI t, by rw [if_pos h4, htx.2.2.1], by rw [if_pos h4, htx.2.2.2.1], hR⟩
  rw [if_neg h4, if_neg h4]
  by_cases h5 : x1 = 5
  · obtain ⟨sz, -, e1, e2, -⟩ := htp
    exact ⟨nI sz, by rw [if_pos h5, e1], by rw [if_pos h5, e2], hR⟩
  rw [if_neg h5, if_neg h5]
  by_cases h6 : x1 = 6
  · exact ⟨G' 0 16, by rw [if_pos h6, hla.2.2.1], by rw [if_pos h6], hR⟩
  rw [if_neg h6, if_neg h6]
  by_cases h7 : x1 = 7
  · refine ⟨sumR (G' 4) 4, ?_, ?_, hR⟩
    · rw [if_pos h7]
      have := sum11 G 105 4 4 (by omega) (by omega)
      rw [show (4 : Int32) = nI 4 from rfl, this, bndO_e, sumR_congr (fun j hj => (hpc.2.2.2 j hj).1)]
    · rw [if_pos h7]
      refine iter_fuel _ (fun j a => a = (sumR (G' 4) j, nI j)) (fun r => r = some (sumR (G' 4) 4)) 4 (by omega) ?_ ?_ rfl
      · rintro j a hj rfl rec
        refine Or.inl ⟨_, rfl, ?_⟩
        unfold q_X12_count_129
        show (if nI 4 ≤ nI j then _ else _) = _
        rw [if_neg (nI_ge hj (by omega)), chk_t (inB_n (by omega) (by decide)), bnd_e, bnd_e, nI_clamp (by omega), nI_1]
        rfl
      · rintro a rfl rec
        rfl
  exact ⟨-2, by rw [if_neg h7], by rw [if_neg h7], hR⟩
