/-- a row's places from a on, k of them, new -/
def rgR (G : Mem) (b a k : Nat) (f : Nat → Int32) : Mem := fun q => if q = b then (fun j => if a ≤ j ∧ j < a + k then f (j - a) else G b j) else G q
theorem rgR_n {G : Mem} {b a k q : Nat} {f : Nat → Int32} (h : q ≠ b) : rgR G b a k f q = G q := if_neg h
theorem rgR_b {G : Mem} {b a k j : Nat} {f : Nat → Int32} : rgR G b a k f b j = if a ≤ j ∧ j < a + k then f (j - a) else G b j := by
  unfold rgR
  rw [if_pos rfl]
theorem rgR_in {G : Mem} {b a k j : Nat} {f : Nat → Int32} (h : j < k) : rgR G b a k f b (a + j) = f j := by
  rw [rgR_b, if_pos (by omega)]
  congr 1
  omega
theorem rgR_out {G : Mem} {b a k j : Nat} {f : Nat → Int32} (h : j < a ∨ a + k ≤ j) : rgR G b a k f b j = G b j := by
  rw [rgR_b, if_neg (by omega)]
theorem rgR_0 {G : Mem} {b a : Nat} {f : Nat → Int32} : rgR G b a 0 f = G := by
  funext q
  by_cases h : q = b
  · subst h
    funext j
    rw [rgR_b, if_neg (by omega)]
  · rw [rgR_n h]
theorem rgR_s {G : Mem} {b a k : Nat} {f : Nat → Int32} : up2 (rgR G b a k f) b (a + k) (f k) = rgR G b a (k + 1) f := by
  funext q j
  by_cases h : q = b
  · subst h
    by_cases hj : j = a + k
    · subst hj
      rw [up2_aa, rgR_in (by omega)]
    · rw [up2_an _ _ _ hj, rgR_b, rgR_b]
      by_cases h2 : a ≤ j ∧ j < a + k
      · rw [if_pos h2, if_pos (by omega)]
      · rw [if_neg h2, if_neg (by omega)]
  · rw [up2_n _ _ _ h, rgR_n h, rgR_n h]
theorem mulI (a b : Nat) : nI a * nI b = nI (a * b) := by
  apply Int32.toBitVec_inj.mp
  show BitVec.ofNat 32 a * BitVec.ofNat 32 b = BitVec.ofNat 32 (a * b)
  rw [← BitVec.ofNat_mul]
theorem subI {a b : Nat} (h : b ≤ a) : nI a - nI b = nI (a - b) := by
  have : nI (a - b) + nI b = nI a := by rw [nI_add]; congr 1; omega
  rw [← this]
  exact Int32.add_sub_cancel _ _
theorem cmp_gt (x y : Int64) : (0 < lg_cmp x y) ↔ y < x := by
  unfold lg_cmp
  by_cases h : x > y
  · rw [if_pos h]
    exact ⟨fun _ => h, fun _ => by decide⟩
  · rw [if_neg h]
    by_cases h2 : x = y
    · rw [if_pos h2]
      exact ⟨fun q => absurd q (by decide), fun q => absurd q h⟩
    · rw [if_neg h2]
      exact ⟨fun q => absurd q (by decide), fun q => absurd q h⟩
theorem cmp_le (x y : Int64) : (lg_cmp x y ≤ 0) ↔ ¬ y < x := by
  rw [← Int32.not_lt, cmp_gt]
/-- a sheet's index -/
theorem sh_rng (x : Int32) : (∃ i, i < 4 ∧ x = nI i ∧ f_X11_outside x 4 = 0 ∧ f_X12_isSheet x = 1 ∧ inB x 4 = true ∧ x.toNatClampNeg = i) ∨ (f_X11_outside x 4 = 1 ∧ f_X12_isSheet x = 0) := by
  unfold f_X12_isSheet
  rcases rng x 4 3 4 (by decide) rfl (by decide) with ⟨i, hi, rfl, ho, hi2⟩ | ⟨ho, hi2, -⟩
  · exact Or.inl ⟨i, hi, rfl, ho, hi2, inB_n hi (by decide), nI_clamp (by omega)⟩
  · exact Or.inr ⟨ho, hi2⟩
theorem shE_i {i : Nat} (h : i < 4) : shE (120 + i) = true := decide_eq_true ⟨by omega, by omega⟩
theorem become11 (G : Mem) (e : Nat) (s n : Int32) : f_X6_become G e s n = some (rpR (up2 (up2 G e 1 s) e 2 n) (e + 4) 40 (fun _ => 0)) := by
  unfold f_X6_become
  rw [bnd_e, bnd_e, fill11 _ _ 40 (by decide), bndO_e]
theorem R_sh_upd {G G1 : Mem} {O : MemO} {G' G1' : Mem} {i : Nat} (h : R_sh G O G') (hi : i < 4) (h1 : ∀ b j, 120 ≤ b ∧ b < 128 ∧ b ≠ 120 + i ∧ b ≠ 124 + i → G1 b j = G b j) (h31 : ∀ a, a ≠ i → G1' 31 a = G' 31 a) (h32 : ∀ a, a ≠ i → G1' 32 a = G' 32 a) (h33 : ∀ a j, a ≠ i → j < 40 → G1' 33 (40 * a + j) = G' 33 (40 * a + j)) (hn : G1 (120 + i) 1 = G1' 31 i ∧ (G1' 31 i = -1 ∨ (rgB (G1' 31 i) 3 ∧ ∃ ln, ln ≤ 40 ∧ G1 (120 + i) 2 = nI ln ∧ G1' 32 i = nI ln ∧ ∀ j, j < ln → G1 (124 + i) j = G1' 33 (40 * i + j)))) : R_sh G1 O G1' := by
  intro a ha
  by_cases hai : a = i
  · subst hai
    exact ⟨(h a ha).1, hn⟩
  · obtain ⟨q1, q2, q3⟩ := h a ha
    refine ⟨q1, by rw [h1 _ _ (by omega), h31 a hai]; exact q2, ?_⟩
    rw [h31 a hai]
    rcases q3 with q3 | ⟨q3, ln, d1, d2, d3, d4⟩
    · exact Or.inl q3
    · exact Or.inr ⟨q3, ln, d1, by rw [h1 _ _ (by omega)]; exact d2, by rw [h32 a hai]; exact d3, fun j hj => by rw [h1 _ _ (by omega), h33 a j hai (by omega)]; exact d4 j hj⟩
theorem ag_sheet : Ag_sheet RR := by
  intro z t G L O S G' x1 x2 x3 hR
  obtain ⟨hsg, hpc, hla, hke, htx, htp, hsh, hco⟩ := id hR
  unfold f_X11_sheet f_X12_sheet
  rcases sh_rng x1 with ⟨i, hi, rfl, ho, his, hb, hc⟩ | ⟨ho, his⟩
  rotate_left
  · exact ⟨G, G', -2, by rw [ho, if_neg i10], by rw [his, if_pos rfl], hR⟩
  rw [ho, his, if_pos rfl, if_neg i10]
  obtain ⟨q1, q2, q3⟩ := hsh i hi
  unfold f_X12_in
  by_cases h1 : x2 < -1
  · exact ⟨G, G', -2, by rw [if_pos h1], by rw [if_pos h1, if_pos rfl], hR⟩
  by_cases h2 : 2 < x2
  · have h3 : ¬ x2 < 3 := by
      intro q
      have a := Int32.lt_iff_toInt_lt.mp q
      have b := Int32.lt_iff_toInt_lt.mp h2
      rw [show (3 : Int32).toInt = 3 from rfl] at a
      rw [show (2 : Int32).toInt = 2 from rfl] at b
      omega
    exact ⟨G, G', -2, by rw [if_neg h1, if_neg h3], by rw [if_neg h1, if_pos h2, if_pos rfl], hR⟩
  have h3 : x2 < 3 := by
    have b : ¬ (2 : Int32).toInt < x2.toInt := fun q => h2 (Int32.lt_iff_toInt_lt.mpr q)
    apply Int32.lt_iff_toInt_lt.mpr
    rw [show (2 : Int32).toInt = 2 from rfl] at b
    rw [show (3 : Int32).toInt = 3 from rfl]
    omega
  rw [if_neg h1, if_pos h3, if_neg h1, if_neg h2, if_neg i10, chk_t hb, chk_t hb, hc, q1, bndO_e, bndO_e, chk_t (shE_i hi), chk_t (shE_i hi), become11, become11, bndO_e, bndO_e]
  by_cases h4 : x2 = -1
  · rw [if_pos h4, if_pos h4, bnd_e, chk_t hb]
    refine ⟨_, _, 1, rfl, rfl, ?_⟩
    have c1 : ∀ b j, b ≠ 120 + i ∧ b ≠ 124 + i → rpR (up2 (up2 G (120 + i) 1 (-1)) (120 + i) 2 0) (120 + i + 4) 40 (fun _ => 0) b j = G b j := by
      intro b j h
      rw [rpR_n (by omega), up2_o (by omega), up2_o (by omega)]
    refine ⟨hsg.cg (fun b j h => c1 b j (by omega)) (fun b j h => up2_o (by omega)), hpc.cg (fun b j h => c1 b j (by omega)) (fun b j h => up2_o (by omega)), hla.cg (fun b j h => c1 b j (by omega)) (fun b j h => up2_o (by omega)), hke.cg (fun b j h => c1 b j (by omega)) (fun b j h => up2_o (by omega)), htx.cg (fun b j h => c1 b j (by omega)) (fun b j h => up2_o (by omega)), htp.cg (fun b j h => c1 b j (by omega)) (fun b j h => up2_o (by omega)), ?_, hco.cg (fun b j h => up2_o (by omega))⟩
    refine R_sh_upd hsh hi (fun b j h => c1 b j (by omega)) (fun a ha => up2_o (by omega)) (fun a ha => up2_o (by omega)) (fun a j ha hj => up2_o (by omega)) ⟨?_, Or.inl (up2_aa _ _ _ _)⟩
    rw [rpR_n (by omega), up2_o (Or.inr (by decide)), up2_aa, up2_aa]
  rw [if_neg h4, if_neg h4]
  by_cases h5 : x3 ≤ 40
  rotate_left
  · exact ⟨G, G', -2, by rw [if_neg h5], by rw [if_neg h5], hR⟩
  rw [if_pos h5, if_pos h5]
  by_cases h6 : 0 ≤ x3
  rotate_left
  · exact ⟨G, G', -14, by rw [if_neg h6], by rw [if_neg h6], hR⟩
  obtain ⟨m, hm, rfl⟩ := nI_of2 (M := 40) (n := 40) rfl (Int32.not_lt.mpr h6) h5
  have h2' : rgB x2 3 := by
    have a0 : ¬ x2 < 0 := by
      intro q
      have a := Int32.lt_iff_toInt_lt.mp q
      have b : ¬ x2.toInt < (-1 : Int32).toInt := fun q => h1 (Int32.lt_iff_toInt_lt.mpr q)
      rw [show (0 : Int32).toInt = 0 from rfl] at a
      rw [show (-1 : Int32).toInt = -1 from rfl] at b
      exact h4 (Int32.toInt_inj.mp (by rw [show (-1 : Int32).toInt = -1 from rfl]; omega))
    obtain ⟨k, hk, rfl⟩ := nI_of2 (M := 2) (n := 2) rfl a0 (Int32.not_lt.mp h2)
    exact ⟨k, by omega, rfl⟩
  rw [if_pos h6, if_pos h6, bnd_e, chk_t hb, bnd_e]
  have l1 : iter (q_X12_sheet_66 (nI i) x2 (nI m)) fuel (up2 (up2 G' 31 i x2) 32 i (nI m), 0) = some (rgR (up2 (up2 G' 31 i x2) 32 i (nI m)) 33 (40 * i) m (fun _ => 0), 1) := by
    refine iter_fuel _ (fun k a => a = (rgR (up2 (up2 G' 31 i x2) 32 i (nI m)) 33 (40 * i) k (fun _ => 0), nI k)) (fun r => r = some (rgR (up2 (up2 G' 31 i x2) 32 i (nI m)) 33 (40 * i) m (fun _ => 0), 1)) m (by omega) ?_ ?_ (by rw [rgR_0]; rfl)
    · rintro k a hk rfl rec
      refine Or.inl ⟨(rgR (up2 (up2 G' 31 i x2) 32 i (nI m)) 33 (40 * i) (k + 1) (fun _ => 0), nI (k + 1)), rfl, ?_⟩
      unfold q_X12_sheet_66
      show (if nI m ≤ nI k then _ else _) = _
      have e : (40 : Int32) * nI i + nI k = nI (40 * i + k) := by
        rw [show (40 : Int32) = nI 40 from rfl, mulI, nI_add]
      rw [if_neg (nI_ge hk (by omega)), e, chk_t (inB_n (by omega) (by decide)), bnd_e, bnd_e, nI_clamp (by omega), nI_1]
      have := rgR_s (G := up2 (up2 G' 31 i x2) 32 i (nI m)) (b := 33) (a := 40 * i) (k := k) (f := fun _ => 0)
      rw [this]
    · rintro a rfl rec
      unfold q_X12_sheet_66
      show (if nI m ≤ nI m then _ else _) = _
      rw [if_pos (nI_le (Nat.le_refl _) (by omega))]
  rw [l1, chk_t hb]
  refine ⟨_, _, 1, rfl, rfl, ?_⟩
  have c1 : ∀ b j, b ≠ 120 + i ∧ b ≠ 124 + i → rpR (up2 (up2 G (120 + i) 1 x2) (120 + i) 2 (nI m)) (120 + i + 4) 40 (fun _ => 0) b j = G b j := by
    intro b j h
    rw [rpR_n (by omega), up2_o (by omega), up2_o (by omega)]
  have c2 : ∀ b j, b ≠ 31 ∧ b ≠ 32 ∧ b ≠ 33 → rgR (up2 (up2 G' 31 i x2) 32 i (nI m)) 33 (40 * i) m (fun _ => 0) b j = G' b j := by
    intro b j h
    rw [rgR_n (by omega), up2_o (by omega), up2_o (by omega)]
  refine ⟨hsg.cg (fun b j h => c1 b j (by omega)) (fun b j h => c2 b j (by omega)), hpc.cg (fun b j h => c1 b j (by omega)) (fun b j h => c2 b j (by omega)), hla.cg (fun b j h => c1 b j (by omega)) (fun b j h => c2 b j (by omega)), hke.cg (fun b j h => c1 b j (by omega)) (fun b j h => c2 b j (by omega)), htx.cg (fun b j h => c1 b j (by omega)) (fun b j h => c2 b j (by omega)), htp.cg (fun b j h => c1 b j (by omega)) (fun b j h => c2 b j (by omega)), ?_, hco.cg (fun b j h => c2 b j (by omega))⟩
  have e31 : rgR (up2 (up2 G' 31 i x2) 32 i (nI m)) 33 (40 * i) m (fun _ => 0) 31 i = x2 := by
    rw [rgR_n (by decide), up2_o (Or.inl (by decide)), up2_aa]
  refine R_sh_upd hsh hi (fun b j h => c1 b j (by omega)) (fun a ha => ?_) (fun a ha => ?_) (fun a j ha hj => ?_) ⟨?_, Or.inr ⟨?_, m, hm, ?_, ?_, fun j hj => ?_⟩⟩
  · rw [rgR_n (by decide), up2_o (Or.inl (by decide)), up2_o (Or.inr ha)]
  · rw [rgR_n (by decide), up2_o (Or.inr ha), up2_o (Or.inl (by decide))]
  · rw [rgR_out (by omega), up2_o (Or.inl (by decide)), up2_o (Or.inl (by decide))]
  · rw [e31, rpR_n (by omega), up2_o (Or.inr (by decide)), up2_aa]
  · rw [e31]; exact h2'
  · rw [rpR_n (by omega), up2_aa]
  · rw [rgR_n (by decide), up2_aa]
  · rw [show 124 + i = 120 + i + 4 by omega, rpR_lt (by omega), rgR_in hj]
theorem m11 {G : Mem} {e : Nat} : (f_X6_isMissing G e = 0) ↔ ¬ G e 1 = -1 := by
  unfold f_X6_isMissing
  by_cases h : G e 1 = -1
  · rw [if_pos h]
    exact ⟨fun q => absurd q i10, fun q => absurd h q⟩
  · rw [if_neg h]
    exact ⟨fun _ => h, fun _ => rfl⟩
theorem srt {x : Int32} (h : x = -1 ∨ rgB x 3) : (x = -1 ∧ ¬ 0 ≤ x ∧ x < 0) ∨ (¬ x = -1 ∧ 0 ≤ x ∧ ¬ x < 0) := by
  rcases h with rfl | ⟨k, hk, rfl⟩
  · exact Or.inl ⟨rfl, by decide, by decide⟩
  · right
    refine ⟨?_, nI_pos' (by omega), nI_pos (by omega)⟩
    intro h
    have h1 : (nI k).toInt = (-1 : Int32).toInt := by rw [h]
    rw [nI_toInt (by omega), show (-1 : Int32).toInt = -1 from rfl] at h1
    omega
theorem ag_cell : Ag_cell RR := by
  intro z t G L O S G' x1 x2 x3 hR
  obtain ⟨hsg, hpc, hla, hke, htx, htp, hsh, hco⟩ := id hR
  unfold f_X11_cell f_X12_cell
  rcases sh_rng x1 with ⟨i, hi, rfl, ho, his, hb, hc⟩ | ⟨ho, his⟩
  rotate_left
  · exact ⟨G, G', -2, by rw [ho, if_neg i10], by rw [his, if_pos rfl], hR⟩
  obtain ⟨q1, q2, q3⟩ := hsh i hi
  rw [ho, his, if_pos rfl, if_neg i10, hc, chk_t hb, chk_t hb, q1, bndO_e, chk_t (shE_i hi)]
  rcases srt (q3.imp id (fun q => q.1)) with ⟨a1, a2, a3⟩ | ⟨a1, a2, a3⟩
  · exact ⟨G, G', -11, by rw [if_neg (fun q => m11.mp q (q2.trans a1))], by rw [if_neg a2], hR⟩
  rw [if_pos (m11.mpr (by rw [q2]; exact a1)), if_pos a2, chk_t hb, chk_t hb, chk_t hb]
  obtain ⟨q4, ln, hln, d1, d2, d3⟩ := q3.resolve_left a1
  rw [d1, d2]
  rcases rng x2 (nI ln) (nI ln - 1) ln (by omega) rfl rfl with ⟨j, hj, rfl, ho2, hi2⟩ | ⟨ho2, hi2, -⟩
  rotate_left
  · exact ⟨G, G', -12, by rw [ho2, if_neg i10], by rw [hi2, if_pos rfl], hR⟩
  rw [ho2, hi2, if_pos rfl, if_neg i10]
  have e : (40 : Int32) * nI i + nI j = nI (40 * i + j) := by
    rw [show (40 : Int32) = nI 40 from rfl, mulI, nI_add]
  rw [e, nI_clamp (show 40 * i + j < 2 ^ 31 by omega)]
  simp only [chk_t (inB_n (show 40 * i + j < 160 by omega) (by decide : 160 < 2 ^ 31))]
  unfold f_X6_put
  rw [q2, nI_clamp (show j < 2 ^ 31 by omega)]
  simp only [chk_t (inB_n (show j < 40 by omega) (by decide : 40 < 2 ^ 31))]
  have fin : ∀ v : Int32, RR z t (up2 G (120 + i + 4) j v) L O S (up2 G' 33 (40 * i + j) v) := by
    intro v
    refine ⟨hsg.cg (fun b j h => up2_o (by omega)) (fun b j h => up2_o (by omega)), hpc.cg (fun b j h => up2_o (by omega)) (fun b j h => up2_o (by omega)), hla.cg (fun b j h => up2_o (by omega)) (fun b j h => up2_o (by omega)), hke.cg (fun b j h => up2_o (by omega)) (fun b j h => up2_o (by omega)), htx.cg (fun b j h => up2_o (by omega)) (fun b j h => up2_o (by omega)), htp.cg (fun b j h => up2_o (by omega)) (fun b j h => up2_o (by omega)), ?_, hco.cg (fun b j h => up2_o (by omega))⟩
    refine R_sh_upd hsh hi (fun b j h => up2_o (by omega)) (fun a ha => up2_o (by omega)) (fun a ha => up2_o (by omega)) (fun a k ha hk => up2_o (by omega)) ⟨?_, Or.inr ⟨?_, ln, hln, ?_, ?_, fun k hk => ?_⟩⟩
    · rw [up2_o (Or.inl (by omega)), up2_o (Or.inl (by decide))]; exact q2
    · rw [up2_o (Or.inl (by decide))]; exact q4
    · rw [up2_o (Or.inl (by omega))]; exact d1
    · rw [up2_o (Or.inl (by decide))]; exact d2
    · by_cases hkj : k = j
      · subst hkj
        rw [show 124 + i = 120 + i + 4 by omega, up2_aa, up2_aa]
      · rw [up2_o (Or.inr hkj), up2_o (by omega)]
        exact d3 k hk
  by_cases s0 : G' 31 i = 0
  · exact ⟨_, _, 1, by rw [if_pos s0, bnd_e, bndO_e], by rw [if_pos s0, bnd_e], fin _⟩
  by_cases s1 : G' 31 i = 1
  · exact ⟨_, _, 1, by rw [if_neg s0, if_pos s1, bnd_e, bndO_e], by rw [if_neg s0, if_pos s1, bnd_e], fin _⟩
  exact ⟨_, _, 1, by rw [if_neg s0, if_neg s1, bnd_e, bndO_e], by rw [if_neg s0, if_neg s1, bnd_e], fin _⟩
theorem room11 (G : Mem) (e ln : Nat) (hln : ln ≤ 40) (he : G e 2 = nI ln) (x n : Int32) : (∃ a m, x = nI a ∧ n = nI m ∧ a + m ≤ ln ∧ f_X6_hasRoom G e x n = 1) ∨ (f_X6_hasRoom G e x n = 0 ∧ (n < 0 ∨ x < 0 ∨ ∃ a m, a < 2 ^ 31 ∧ m < 2 ^ 31 ∧ x = nI a ∧ n = nI m ∧ ln < a + m)) := by
  unfold f_X6_hasRoom
  rw [he]
  by_cases h1 : n < 0
  · exact Or.inr ⟨by rw [if_pos h1], Or.inl h1⟩
  obtain ⟨m, hm, rfl⟩ := nI_of h1
  by_cases h3 : x < 0
  · refine Or.inr ⟨?_, Or.inr (Or.inl h3)⟩
    rw [if_neg h1, if_pos h3]
    split <;> rfl
  obtain ⟨a, ha, rfl⟩ := nI_of h3
  rw [if_neg h1, if_neg h3]
  by_cases h2 : ln < m
  · exact Or.inr ⟨by rw [if_pos (nI_lt h2 hm)], Or.inr (Or.inr ⟨a, m, ha, hm, rfl, rfl, by omega⟩)⟩
  rw [if_neg (nI_nlt (by omega) (by omega)), subI (by omega)]
  by_cases h4 : ln - m < a
  · exact Or.inr ⟨by rw [if_pos (nI_lt h4 ha)], Or.inr (Or.inr ⟨a, m, ha, hm, rfl, rfl, by omega⟩)⟩
  · exact Or.inl ⟨a, m, rfl, rfl, by omega, by rw [if_neg (nI_nlt (by omega) (by omega))]⟩
theorem lcmp {a m ln : Nat} (ha : a < 2 ^ 31) (hm : m < 2 ^ 31) (hln : ln < 2 ^ 31) : (lN ln < (nI a).toInt64 + (nI m).toInt64) ↔ ln < a + m := by
  rw [nI_l ha, nI_l hm, lN_add]
  rw [Int64.lt_iff_toInt_lt, lN_toInt hln]
  have : (lN (a + m)).toInt = ((a + m : Nat) : Int) := by
    show (Int64.ofNat (a + m)).toInt = _
    exact Int64.toInt_ofNat_of_lt (by omega)
  rw [this]
  omega
theorem ag_copy : Ag_copy RR := by
  intro z t G L O S G' x1 x2 x3 x4 x5 hR
  obtain ⟨hsg, hpc, hla, hke, htx, htp, hsh, hco⟩ := id hR
  unfold f_X11_copy f_X12_copy
  rcases sh_rng x1 with ⟨i, hi, rfl, ho, his, hb, hc⟩ | ⟨ho, his⟩
  rotate_left
  · exact ⟨G, G', -2, by rw [ho, if_neg i10], by rw [his, if_pos rfl], hR⟩
  rw [ho, his, if_pos rfl, if_neg i10]
  rcases sh_rng x3 with ⟨o, hoo, rfl, ho, his, hb3, hc3⟩ | ⟨ho, his⟩
  rotate_left
  · exact ⟨G, G', -2, by rw [ho, if_neg i10], by rw [his, if_pos rfl], hR⟩
  obtain ⟨q1, q2, q3⟩ := hsh i hi
  obtain ⟨r1, r2, r3⟩ := hsh o hoo
  rw [ho, his, if_pos rfl, if_neg i10, hc, hc3, chk_t hb, chk_t hb, chk_t hb3, q1, bndO_e, chk_t (shE_i hi), chk_t hb3, r1, bndO_e, chk_t (shE_i hoo)]
  rcases srt (q3.imp id (fun q => q.1)) with ⟨a1, a2, a3⟩ | ⟨a1, a2, a3⟩
  · exact ⟨G, G', -11, by rw [if_neg (fun q => m11.mp q (q2.trans a1))], by rw [if_pos a3], hR⟩
  rw [if_pos (m11.mpr (by rw [q2]; exact a1)), if_neg a3]
  rcases srt (r3.imp id (fun q => q.1)) with ⟨b1, b2, b3⟩ | ⟨b1, b2, b3⟩
  · exact ⟨G, G', -11, by rw [if_neg (fun q => m11.mp q (r2.trans b1))], by rw [if_neg b2], hR⟩
  rw [if_pos (m11.mpr (by rw [r2]; exact b1)), if_pos b2, chk_t hb, chk_t hb3, q2, r2]
  by_cases hs : G' 31 i = G' 31 o
  rotate_left
  · exact ⟨G, G', -13, by rw [if_neg hs], by rw [if_neg hs], hR⟩
  rw [if_pos hs, if_pos hs, chk_t hb, chk_t hb3]
  obtain ⟨q4, ln, hln, d1, d2, d3⟩ := q3.resolve_left a1
  obtain ⟨r4, lo, hlo, f1, f2, f3⟩ := r3.resolve_left b1
  rw [d2, f2, nI_l (show ln < 2 ^ 31 by omega), nI_l (show lo < 2 ^ 31 by omega)]
  have out12 : ∀ {K : Option (Mem × Int32)}, (x5 < 0 ∨ x2 < 0 ∨ x4 < 0 ∨ lN ln < x2.toInt64 + x5.toInt64 ∨ lN lo < x4.toInt64 + x5.toInt64) → (if x5 < 0 then some (G', -12) else (if x2 < 0 then some (G', -12) else (if x4 < 0 then some (G', -12) else (if 0 < lg_cmp (x2.toInt64 + x5.toInt64) (lN ln) then some (G', -12) else (if lg_cmp (x4.toInt64 + x5.toInt64) (lN lo) ≤ 0 then K else some (G', -12)))))) = some (G', -12) := by
    intro K h
    by_cases h1 : x5 < 0
    · rw [if_pos h1]
    by_cases h2 : x2 < 0
    · rw [if_neg h1, if_pos h2]
    by_cases h3 : x4 < 0
    · rw [if_neg h1, if_neg h2, if_pos h3]
    by_cases h4 : lN ln < x2.toInt64 + x5.toInt64
    · rw [if_neg h1, if_neg h2, if_neg h3, if_pos ((cmp_gt _ _).mpr h4)]
    rw [if_neg h1, if_neg h2, if_neg h3, if_neg (fun q => h4 ((cmp_gt _ _).mp q))]
    have h5 : lN lo < x4.toInt64 + x5.toInt64 := by
      rcases h with h | h | h | h | h
      · exact absurd h h1
      · exact absurd h h2
      · exact absurd h h3
      · exact absurd h h4
      · exact h
    rw [if_neg (fun q => (cmp_le _ _).mp q h5)]
  rcases room11 G (120 + i) ln hln d1 x2 x5 with ⟨a, m, rfl, rfl, ham, hr⟩ | ⟨hr, hbad⟩
  rotate_left
  · refine ⟨G, G', -12, by rw [hr, if_pos rfl], out12 ?_, hR⟩
    rcases hbad with h | h | ⟨a, m, ha, hm, rfl, rfl, h⟩
    · exact Or.inl h
    · exact Or.inr (Or.inl h)
    · exact Or.inr (Or.inr (Or.inr (Or.inl ((lcmp ha hm (by omega)).mpr h))))
  rw [hr, if_neg i10]
  rcases room11 G (120 + o) lo hlo f1 x4 (nI m) with ⟨b, m2, rfl, hm2, hbm, hr2⟩ | ⟨hr2, hbad⟩
  rotate_left
  · refine ⟨G, G', -12, by rw [hr2, if_pos rfl], out12 ?_, hR⟩
    rcases hbad with h | h | ⟨a2, m3, ha2, hm3, rfl, hmm, h⟩
    · exact Or.inl h
    · exact Or.inr (Or.inr (Or.inl h))
    · have : m = m3 := (nI_eq (by omega) hm3).mp hmm
      subst this
      exact Or.inr (Or.inr (Or.inr (Or.inr ((lcmp ha2 hm3 (by omega)).mpr h))))
  have hmm : m = m2 := by
    by_cases h31 : m2 < 2 ^ 31
    · exact (nI_eq (by omega) h31).mp hm2
    · omega
  subst hmm
  rw [hr2, if_neg i10]
  have hcp : cpB (nI a) (nI b) (nI m) 40 40 = true := decide_eq_true ⟨nI_pos (by omega), nI_pos (by omega), nI_pos (by omega), by rw [nI_clamp (by omega), nI_clamp (by omega)]; omega, by rw [nI_clamp (by omega), nI_clamp (by omega)]; omega⟩
  rw [chk_t hcp, bnd_e]
  rw [if_neg (nI_pos (by omega)), if_neg (nI_pos (by omega)), if_neg (nI_pos (by omega)), if_neg (fun q => by have := (lcmp (by omega) (by omega) (by omega)).mp ((cmp_gt _ _).mp q); omega), if_pos ((cmp_le _ _).mpr (fun q => by have := (lcmp (by omega) (by omega) (by omega)).mp q; omega))]
  -- the reference's two loops
  have l2 : iter (q_X12_copy_148 (nI i) (nI a) (nI o) (nI b) (nI m)) fuel (rgR G' 34 0 m (fun k => G' 33 (40 * i + a + k)), 0) = some (rgR (rgR G' 34 0 m (fun k => G' 33 (40 * i + a + k))) 33 (40 * o + b) m (fun k => G' 33 (40 * i + a + k)), nI m) := by
    refine iter_fuel _ (fun k q => q = (rgR (rgR G' 34 0 m (fun k => G' 33 (40 * i + a + k))) 33 (40 * o + b) k (fun k => G' 33 (40 * i + a + k)), nI k)) (fun r => r = some (rgR (rgR G' 34 0 m (fun k => G' 33 (40 * i + a + k))) 33 (40 * o + b) m (fun k => G' 33 (40 * i + a + k)), nI m)) m (by omega) ?_ ?_ (by rw [rgR_0]; rfl)
    · rintro k q hk rfl rec
      refine Or.inl ⟨(rgR (rgR G' 34 0 m (fun k => G' 33 (40 * i + a + k))) 33 (40 * o + b) (k + 1) (fun k => G' 33 (40 * i + a + k)), nI (k + 1)), rfl, ?_⟩
      unfold q_X12_copy_148
      show (if nI m ≤ nI k then _ else _) = _
      have e : (40 : Int32) * nI o + nI b + nI k = nI (40 * o + b + k) := by
        rw [show (40 : Int32) = nI 40 from rfl, mulI, nI_add, nI_add]
      rw [if_neg (nI_ge hk (by omega)), e, chk_t (inB_n (by omega) (by decide)), chk_t (inB_n (by omega) (by decide)), bnd_e, bnd_e, nI_clamp (show 40 * o + b + k < 2 ^ 31 by omega), nI_clamp (show k < 2 ^ 31 by omega), nI_1, rgR_n (q := 34) (by decide)]
      have h34 : rgR G' 34 0 m (fun k => G' 33 (40 * i + a + k)) 34 k = G' 33 (40 * i + a + k) := by
        have := rgR_in (G := G') (b := 34) (a := 0) (k := m) (j := k) (f := fun k => G' 33 (40 * i + a + k)) hk
        rw [Nat.zero_add] at this
        exact this
      rw [h34]
      have := rgR_s (G := rgR G' 34 0 m (fun k => G' 33 (40 * i + a + k))) (b := 33) (a := 40 * o + b) (k := k) (f := fun k => G' 33 (40 * i + a + k))
      rw [this]
    · rintro q rfl rec
      unfold q_X12_copy_148
      show (if nI m ≤ nI m then _ else _) = _
      rw [if_pos (nI_le (Nat.le_refl _) (by omega))]
  have l1 : iter (q_X12_copy_111 (nI i) (nI a) (nI o) (nI b) (nI m)) fuel (G', 0) = some (rgR (rgR G' 34 0 m (fun k => G' 33 (40 * i + a + k))) 33 (40 * o + b) m (fun k => G' 33 (40 * i + a + k)), nI m) := by
    refine iter_fuel _ (fun k q => q = (rgR G' 34 0 k (fun k => G' 33 (40 * i + a + k)), nI k)) (fun r => r = some (rgR (rgR G' 34 0 m (fun k => G' 33 (40 * i + a + k))) 33 (40 * o + b) m (fun k => G' 33 (40 * i + a + k)), nI m)) m (by omega) ?_ ?_ (by rw [rgR_0]; rfl)
    · rintro k q hk rfl rec
      refine Or.inl ⟨(rgR G' 34 0 (k + 1) (fun k => G' 33 (40 * i + a + k)), nI (k + 1)), rfl, ?_⟩
      unfold q_X12_copy_111
      show (if nI m ≤ nI k then _ else _) = _
      have e : (40 : Int32) * nI i + nI a + nI k = nI (40 * i + a + k) := by
        rw [show (40 : Int32) = nI 40 from rfl, mulI, nI_add, nI_add]
      rw [if_neg (nI_ge hk (by omega)), e, chk_t (inB_n (by omega) (by decide)), chk_t (inB_n (by omega) (by decide)), bnd_e, bnd_e, nI_clamp (show 40 * i + a + k < 2 ^ 31 by omega), nI_clamp (show k < 2 ^ 31 by omega), nI_1, rgR_n (q := 33) (by decide)]
      have := rgR_s (G := G') (b := 34) (a := 0) (k := k) (f := fun k => G' 33 (40 * i + a + k))
      rw [Nat.zero_add] at this
      rw [this]
    · rintro q rfl rec
      unfold q_X12_copy_111
      show (if nI m ≤ nI m then _ else _) = _
      rw [if_pos (nI_le (Nat.le_refl _) (by omega)), l2]
  rw [l1]
  refine ⟨_, _, nI m, rfl, rfl, ?_⟩
  have c1 : ∀ b' j, b' ≠ 124 + o → cpG G (120 + i + 4) (120 + o + 4) (nI a) (nI b) (nI m) b' j = G b' j := by
    intro b' j h
    unfold cpG
    rw [if_neg (by omega)]
  have c2 : ∀ b' j, b' ≠ 33 ∧ b' ≠ 34 → rgR (rgR G' 34 0 m (fun k => G' 33 (40 * i + a + k))) 33 (40 * o + b) m (fun k => G' 33 (40 * i + a + k)) b' j = G' b' j := by
    intro b' j h
    rw [rgR_n (by omega), rgR_n (by omega)]
  refine ⟨hsg.cg (fun b j h => c1 b j (by omega)) (fun b j h => c2 b j (by omega)), hpc.cg (fun b j h => c1 b j (by omega)) (fun b j h => c2 b j (by omega)), hla.cg (fun b j h => c1 b j (by omega)) (fun b j h => c2 b j (by omega)), hke.cg (fun b j h => c1 b j (by omega)) (fun b j h => c2 b j (by omega)), htx.cg (fun b j h => c1 b j (by omega)) (fun b j h => c2 b j (by omega)), htp.cg (fun b j h => c1 b j (by omega)) (fun b j h => c2 b j (by omega)), ?_, hco.cg (fun b j h => c2 b j (by omega))⟩
  refine R_sh_upd hsh hoo (fun b j h => c1 b j (by omega)) (fun a ha => c2 _ _ (by decide)) (fun a ha => c2 _ _ (by decide)) (fun a j ha hj => ?_) ⟨?_, Or.inr ⟨?_, lo, hlo, ?_, ?_, fun j hj => ?_⟩⟩
  · rw [rgR_out (by omega), rgR_n (by decide)]
  · rw [c1 _ _ (by omega), c2 _ _ (by decide)]; exact r2
  · rw [c2 _ _ (by decide)]; exact r4
  · rw [c1 _ _ (by omega)]; exact f1
  · rw [c2 _ _ (by decide)]; exact f2
  · have hcv : cpG G (120 + i + 4) (120 + o + 4) (nI a) (nI b) (nI m) (124 + o) j = if b ≤ j ∧ j < b + m then G (124 + i) (a + (j - b)) else G (124 + o) j := by
      unfold cpG
      rw [if_pos (by omega), nI_clamp (by omega), nI_clamp (by omega), nI_clamp (by omega), show 120 + i + 4 = 124 + i by omega, show 120 + o + 4 = 124 + o by omega]
      rfl
    rw [hcv, rgR_b]
    by_cases h : b ≤ j ∧ j < b + m
    · rw [if_pos h, if_pos (by omega), d3 _ (by omega)]
      congr 1
      omega
    · rw [if_neg h, if_neg (by omega), rgR_n (by decide)]
      exact f3 j hj
