theorem chg (G : Mem) (e n : Nat) (hn : n < 2 ^ 31) (x2 x3 B M2 M3 : Int32) (b : Nat) (hb : b < 2 ^ 31) (hB : B = nI b) (hM2 : M2 = nI n - 1) (hM3 : M3 = B - 1) : (∃ j k, j < n ∧ k < b ∧ x2 = nI j ∧ x3 = nI k ∧ f_X12_in x2 0 M2 = 1 ∧ f_X12_in x3 0 M3 = 1 ∧ f_X11_change G e n x2 x3 B = some (up2 G e j (nI k), G e j)) ∨ ((f_X12_in x2 0 M2 = 0 ∨ (f_X12_in x2 0 M2 = 1 ∧ f_X12_in x3 0 M3 = 0)) ∧ f_X11_change G e n x2 x3 B = some (G, -2)) := by
  unfold f_X11_change
  rcases rng x2 (nI n) M2 n hn rfl hM2 with ⟨j, hj, rfl, ho, hi⟩ | ⟨ho, hi, -⟩
  · rcases rng x3 B M3 b hb hB hM3 with ⟨k, hk, rfl, ho3, hi3⟩ | ⟨ho3, hi3, -⟩
    · refine Or.inl ⟨j, k, hj, hk, rfl, rfl, hi, hi3, ?_⟩
      rw [ho, ho3, if_pos rfl, if_pos rfl, chk_t (inB_n hj hn), bnd_e, chk_t (inB_n hj hn), bnd_e, nI_clamp (by omega)]
    · refine Or.inr ⟨Or.inr ⟨hi, hi3⟩, ?_⟩
      rw [ho, ho3, if_pos rfl, if_neg (by decide)]
  · refine Or.inr ⟨Or.inl hi, ?_⟩
    rw [ho, if_neg (by decide)]
theorem i10 : ¬ (1 : Int32) = 0 := by decide
theorem i01 : ¬ (0 : Int32) = 1 := by decide
theorem R_pc_set0 {G G' : Mem} {j k : Nat} (h : R_pc G G') (hj : j < 48) (hk : k < 10) : R_pc (up2 G 102 j (nI k)) (up2 G' 1 j (nI k)) := by
  obtain ⟨h0, h1, h2, h3⟩ := h
  refine ⟨fun i hi => ?_, fun i hi => ?_, fun i hi => ?_, fun i hi => ?_⟩
  · by_cases hij : i = j
    · subst hij
      rw [up2_aa, up2_aa]
      exact ⟨rfl, k, hk, rfl⟩
    · rw [up2_an _ _ _ hij, up2_an _ _ _ hij]
      exact h0 i hi
  · rw [up2_o (Or.inl (by decide)), up2_o (Or.inl (by decide))]
    exact h1 i hi
  · rw [up2_o (Or.inl (by decide)), up2_o (Or.inl (by decide))]
    exact h2 i hi
  · rw [up2_o (Or.inl (by decide)), up2_o (Or.inl (by decide))]
    exact h3 i hi
theorem R_pc_set1 {G G' : Mem} {j k : Nat} (h : R_pc G G') (hj : j < 48) (hk : k < 2) : R_pc (up2 G 103 j (nI k)) (up2 G' 2 j (nI k)) := by
  obtain ⟨h0, h1, h2, h3⟩ := h
  refine ⟨fun i hi => ?_, fun i hi => ?_, fun i hi => ?_, fun i hi => ?_⟩
  · rw [up2_o (Or.inl (by decide)), up2_o (Or.inl (by decide))]
    exact h0 i hi
  · by_cases hij : i = j
    · subst hij
      rw [up2_aa, up2_aa]
      exact ⟨rfl, k, hk, rfl⟩
    · rw [up2_an _ _ _ hij, up2_an _ _ _ hij]
      exact h1 i hi
  · rw [up2_o (Or.inl (by decide)), up2_o (Or.inl (by decide))]
    exact h2 i hi
  · rw [up2_o (Or.inl (by decide)), up2_o (Or.inl (by decide))]
    exact h3 i hi
theorem R_pc_set2 {G G' : Mem} {j k : Nat} (h : R_pc G G') (hj : j < 48) (hk : k < 2) : R_pc (up2 G 104 j (nI k)) (up2 G' 3 j (nI k)) := by
  obtain ⟨h0, h1, h2, h3⟩ := h
  refine ⟨fun i hi => ?_, fun i hi => ?_, fun i hi => ?_, fun i hi => ?_⟩
  · rw [up2_o (Or.inl (by decide)), up2_o (Or.inl (by decide))]
    exact h0 i hi
  · rw [up2_o (Or.inl (by decide)), up2_o (Or.inl (by decide))]
    exact h1 i hi
  · by_cases hij : i = j
    · subst hij
      rw [up2_aa, up2_aa]
      exact ⟨rfl, k, hk, rfl⟩
    · rw [up2_an _ _ _ hij, up2_an _ _ _ hij]
      exact h2 i hi
  · rw [up2_o (Or.inl (by decide)), up2_o (Or.inl (by decide))]
    exact h3 i hi
theorem R_pc_set3 {G G' : Mem} {j k : Nat} (h : R_pc G G') (hj : j < 4) (hk : k < 10) : R_pc (up2 G 105 j (nI k)) (up2 G' 4 j (nI k)) := by
  obtain ⟨h0, h1, h2, h3⟩ := h
  refine ⟨fun i hi => ?_, fun i hi => ?_, fun i hi => ?_, fun i hi => ?_⟩
  · rw [up2_o (Or.inl (by decide)), up2_o (Or.inl (by decide))]
    exact h0 i hi
  · rw [up2_o (Or.inl (by decide)), up2_o (Or.inl (by decide))]
    exact h1 i hi
  · rw [up2_o (Or.inl (by decide)), up2_o (Or.inl (by decide))]
    exact h2 i hi
  · by_cases hij : i = j
    · subst hij
      rw [up2_aa, up2_aa]
      exact ⟨rfl, k, hk, rfl⟩
    · rw [up2_an _ _ _ hij, up2_an _ _ _ hij]
      exact h3 i hi
theorem ag_set : Ag_set RR := by
  intro z t G L O S G' x1 x2 x3 hR
  obtain ⟨hsg, hpc, hla, hke, htx, htp, hsh, hco⟩ := id hR
  by_cases h0 : x1 = 0
  · subst h0
    rcases chg G 102 48 (by decide) x2 x3 10 47 9 10 (by decide) rfl (by decide) (by decide) with ⟨j, k, hj, hk, rfl, rfl, i2, i3, hc⟩ | ⟨hi, hc⟩
    · refine ⟨up2 G 102 j (nI k), up2 G' 1 j (nI k), G' 1 j, ?_, ?_, ⟨hsg.cg (fun b j hp => up2_o (by omega)) (fun b j hp => up2_o (by omega)), R_pc_set0 hpc hj hk, hla.cg (fun b j hp => up2_o (by omega)) (fun b j hp => up2_o (by omega)), hke.cg (fun b j hp => up2_o (by omega)) (fun b j hp => up2_o (by omega)), htx.cg (fun b j hp => up2_o (by omega)) (fun b j hp => up2_o (by omega)), htp.cg (fun b j hp => up2_o (by omega)) (fun b j hp => up2_o (by omega)), hsh.cg (fun b j hp => up2_o (by omega)) (fun b j hp => up2_o (by omega)), hco.cg (fun b j hp => up2_o (by omega))⟩⟩
      · unfold f_X11_set
        rw [if_pos rfl, hc, bndP_e, j_X11_set_164, (hpc.1 j hj).1]
      · unfold f_X12_set
        rw [if_pos rfl, i2, i3, if_neg i10, if_neg i10, chk_t (inB_n hj (by decide)), bnd_e, chk_t (inB_n hj (by decide)), bnd_e, nI_clamp (by omega)]
    · refine ⟨G, G', -2, ?_, ?_, hR⟩
      · unfold f_X11_set
        rw [if_pos rfl, hc, bndP_e, j_X11_set_164]
      · unfold f_X12_set
        rw [if_pos rfl]
        rcases hi with hi | ⟨hi, hi3⟩
        · rw [hi, if_pos rfl]
        · rw [hi, hi3, if_neg i10, if_pos rfl]
  by_cases h1 : x1 = 1
  · subst h1
    rcases chg G 103 48 (by decide) x2 x3 2 47 1 2 (by decide) rfl (by decide) (by decide) with ⟨j, k, hj, hk, rfl, rfl, i2, i3, hc⟩ | ⟨hi, hc⟩
    · refine ⟨up2 G 103 j (nI k), up2 G' 2 j (nI k), G' 2 j, ?_, ?_, ⟨hsg.cg (fun b j hp => up2_o (by omega)) (fun b j hp => up2_o (by omega)), R_pc_set1 hpc hj hk, hla.cg (fun b j hp => up2_o (by omega)) (fun b j hp => up2_o (by omega)), hke.cg (fun b j hp => up2_o (by omega)) (fun b j hp => up2_o (by omega)), htx.cg (fun b j hp => up2_o (by omega)) (fun b j hp => up2_o (by omega)), htp.cg (fun b j hp => up2_o (by omega)) (fun b j hp => up2_o (by omega)), hsh.cg (fun b j hp => up2_o (by omega)) (fun b j hp => up2_o (by omega)), hco.cg (fun b j hp => up2_o (by omega))⟩⟩
      · unfold f_X11_set
        rw [if_neg (by decide), if_pos rfl, hc, bndP_e, j_X11_set_164, (hpc.2.1 j hj).1]
      · unfold f_X12_set
        rw [if_neg (by decide), if_pos rfl, i2, i3, if_neg i10, if_neg i10, chk_t (inB_n hj (by decide)), bnd_e, chk_t (inB_n hj (by decide)), bnd_e, nI_clamp (by omega)]
    · refine ⟨G, G', -2, ?_, ?_, hR⟩
      · unfold f_X11_set
        rw [if_neg (by decide), if_pos rfl, hc, bndP_e, j_X11_set_164]
      · unfold f_X12_set
        rw [if_neg (by decide), if_pos rfl]
        rcases hi with hi | ⟨hi, hi3⟩
        · rw [hi, if_pos rfl]
        · rw [hi, hi3, if_neg i10, if_pos rfl]
  by_cases h2 : x1 = 2
  · subst h2
    rcases chg G 104 48 (by decide) x2 x3 2 47 1 2 (by decide) rfl (by decide) (by decide) with ⟨j, k, hj, hk, rfl, rfl, i2, i3, hc⟩ | ⟨hi, hc⟩
    · refine ⟨up2 G 104 j (nI k), up2 G' 3 j (nI k), G' 3 j, ?_, ?_, ⟨hsg.cg (fun b j hp => up2_o (by omega)) (fun b j hp => up2_o (by omega)), R_pc_set2 hpc hj hk, hla.cg (fun b j hp => up2_o (by omega)) (fun b j hp => up2_o (by omega)), hke.cg (fun b j hp => up2_o (by omega)) (fun b j hp => up2_o (by omega)), htx.cg (fun b j hp => up2_o (by omega)) (fun b j hp => up2_o (by omega)), htp.cg (fun b j hp => up2_o (by omega)) (fun b j hp => up2_o (by omega)), hsh.cg (fun b j hp => up2_o (by omega)) (fun b j hp => up2_o (by omega)), hco.cg (fun b j hp => up2_o (by omega))⟩⟩
      · unfold f_X11_set
        rw [if_neg (by decide), if_neg (by decide), if_pos rfl, hc, bndP_e, j_X11_set_164, (hpc.2.2.1 j hj).1]
      · unfold f_X12_set
        rw [if_neg (by decide), if_neg (by decide), if_pos rfl, i2, i3, if_neg i10, if_neg i10, chk_t (inB_n hj (by decide)), bnd_e, chk_t (inB_n hj (by decide)), bnd_e, nI_clamp (by omega)]
    · refine ⟨G, G', -2, ?_, ?_, hR⟩
      · unfold f_X11_set
        rw [if_neg (by decide), if_neg (by decide), if_pos rfl, hc, bndP_e, j_X11_set_164]
      · unfold f_X12_set
        rw [if_neg (by decide), if_neg (by decide), if_pos rfl]
        rcases hi with hi | ⟨hi, hi3⟩
        · rw [hi, if_pos rfl]
        · rw [hi, hi3, if_neg i10, if_pos rfl]
  by_cases h3 : x1 = 3
  · subst h3
    rcases chg G 105 4 (by decide) x2 x3 10 3 9 10 (by decide) rfl (by decide) (by decide) with ⟨j, k, hj, hk, rfl, rfl, i2, i3, hc⟩ | ⟨hi, hc⟩
    · refine ⟨up2 G 105 j (nI k), up2 G' 4 j (nI k), G' 4 j, ?_, ?_, ⟨hsg.cg (fun b j hp => up2_o (by omega)) (fun b j hp => up2_o (by omega)), R_pc_set3 hpc hj hk, hla.cg (fun b j hp => up2_o (by omega)) (fun b j hp => up2_o (by omega)), hke.cg (fun b j hp => up2_o (by omega)) (fun b j hp => up2_o (by omega)), htx.cg (fun b j hp => up2_o (by omega)) (fun b j hp => up2_o (by omega)), htp.cg (fun b j hp => up2_o (by omega)) (fun b j hp => up2_o (by omega)), hsh.cg (fun b j hp => up2_o (by omega)) (fun b j hp => up2_o (by omega)), hco.cg (fun b j hp => up2_o (by omega))⟩⟩
      · unfold f_X11_set
        rw [if_neg (by decide), if_neg (by decide), if_neg (by decide), if_pos rfl, hc, bndP_e, j_X11_set_164, (hpc.2.2.2 j hj).1]
      · unfold f_X12_set
        rw [if_neg (by decide), if_neg (by decide), if_neg (by decide), if_pos rfl, i2, i3, if_neg i10, if_neg i10, chk_t (inB_n hj (by decide)), bnd_e, chk_t (inB_n hj (by decide)), bnd_e, nI_clamp (by omega)]
    · refine ⟨G, G', -2, ?_, ?_, hR⟩
      · unfold f_X11_set
        rw [if_neg (by decide), if_neg (by decide), if_neg (by decide), if_pos rfl, hc, bndP_e, j_X11_set_164]
      · unfold f_X12_set
        rw [if_neg (by decide), if_neg (by decide), if_neg (by decide), if_pos rfl]
        rcases hi with hi | ⟨hi, hi3⟩
        · rw [hi, if_pos rfl]
        · rw [hi, hi3, if_neg i10, if_pos rfl]
  by_cases h4 : x1 = 4
  · subst h4
    by_cases hv : x3 < 1 ∨ 48 < x3
    · refine ⟨G, G', -2, ?_, ?_, hR⟩
      · unfold f_X11_set j_X11_set_133 j_X11_set_164
        rw [if_neg (by decide), if_neg (by decide), if_neg (by decide), if_neg (by decide), if_pos rfl]
        rcases hv with hv | hv
        · rw [if_pos hv, if_neg (by decide)]
        · by_cases h1 : x3 < 1
          · rw [if_pos h1, if_neg (by decide)]
          · rw [if_neg h1, if_pos hv, if_neg (by decide)]
      · unfold f_X12_set f_X12_in
        rw [if_neg (by decide), if_neg (by decide), if_neg (by decide), if_neg (by decide), if_pos rfl]
        rcases hv with hv | hv
        · rw [if_pos hv, if_pos rfl]
        · by_cases h1 : x3 < 1
          · rw [if_pos h1, if_pos rfl]
          · rw [if_neg h1, if_pos hv, if_pos rfl]
    · have h1 : ¬ x3 < 1 := fun q => hv (Or.inl q)
      have h2 : ¬ 48 < x3 := fun q => hv (Or.inr q)
      obtain ⟨k, hk, rfl⟩ := nI_of2 (M := 48) (n := 48) rfl (fun q => h1 (by rw [Int32.lt_iff_toInt_lt] at q ⊢; have e1 : (1 : Int32).toInt = 1 := rfl; have e0 : (0 : Int32).toInt = 0 := rfl; omega)) (Int32.not_lt.mp h2)
      have hk1 : 1 ≤ k := Nat.pos_of_ne_zero (fun q => h1 (by rw [q]; decide))
      refine ⟨up2 G 101 5 (nI k), up2 G' 0 1 (nI k), G' 0 1, ?_, ?_, ⟨hsg.cg (fun b j hp => up2_o (by omega)) (fun b j hp => up2_o (by omega)), hpc.cg (fun b j hp => up2_o (by omega)) (fun b j hp => up2_o (by omega)), ⟨⟨by rw [up2_aa, up2_aa], by rw [up2_aa]; exact ⟨k, hk1, hk, rfl⟩⟩, ⟨by rw [up2_o (Or.inr (by decide)), up2_o (Or.inr (by decide))]; exact hla.2.1.1, by rw [up2_o (Or.inr (by decide))]; exact hla.2.1.2⟩, by rw [up2_o (Or.inr (by decide)), up2_o (Or.inr (by decide))]; exact hla.2.2.1, by rw [up2_o (Or.inr (by decide))]; exact hla.2.2.2⟩, hke.cg (fun b j hp => up2_o (by omega)) (fun b j hp => up2_o (by omega)), htx.cg (fun b j hp => up2_o (by omega)) (fun b j hp => up2_o (by omega)), htp.cg (fun b j hp => up2_o (by omega)) (fun b j hp => up2_o (by omega)), hsh.cg (fun b j hp => up2_o (by omega)) (fun b j hp => up2_o (by omega)), hco.cg (fun b j hp => up2_o (by omega))⟩⟩
      · unfold f_X11_set j_X11_set_164
        rw [if_neg (by decide), if_neg (by decide), if_neg (by decide), if_neg (by decide), if_pos rfl, if_neg h1, if_neg h2, bnd_e, bnd_e, hla.1.1]
      · unfold f_X12_set f_X12_in
        rw [if_neg (by decide), if_neg (by decide), if_neg (by decide), if_neg (by decide), if_pos rfl, if_neg h1, if_neg h2, if_neg i10, bnd_e, bnd_e]
  by_cases h5 : x1 = 5
  · subst h5
    rcases rng x3 6 5 6 (by decide) rfl (by decide) with ⟨k, hk, rfl, ho, hi⟩ | ⟨ho, hi, -⟩
    · refine ⟨up2 G 101 6 (nI k), up2 G' 0 2 (nI k), G' 0 2, ?_, ?_, ⟨hsg.cg (fun b j hp => up2_o (by omega)) (fun b j hp => up2_o (by omega)), hpc.cg (fun b j hp => up2_o (by omega)) (fun b j hp => up2_o (by omega)), ⟨⟨by rw [up2_o (Or.inr (by decide)), up2_o (Or.inr (by decide))]; exact hla.1.1, by rw [up2_o (Or.inr (by decide))]; exact hla.1.2⟩, ⟨by rw [up2_aa, up2_aa], by rw [up2_aa]; exact ⟨k, hk, rfl⟩⟩, by rw [up2_o (Or.inr (by decide)), up2_o (Or.inr (by decide))]; exact hla.2.2.1, by rw [up2_o (Or.inr (by decide))]; exact hla.2.2.2⟩, hke.cg (fun b j hp => up2_o (by omega)) (fun b j hp => up2_o (by omega)), htx.cg (fun b j hp => up2_o (by omega)) (fun b j hp => up2_o (by omega)), htp.cg (fun b j hp => up2_o (by omega)) (fun b j hp => up2_o (by omega)), hsh.cg (fun b j hp => up2_o (by omega)) (fun b j hp => up2_o (by omega)), hco.cg (fun b j hp => up2_o (by omega))⟩⟩
      · unfold f_X11_set j_X11_set_133 j_X11_set_164
        rw [if_neg h0, if_neg h1, if_neg h2, if_neg h3, if_neg h4, if_pos rfl, ho, if_pos rfl, bnd_e, bnd_e, hla.2.1.1]
      · unfold f_X12_set
        rw [if_neg h0, if_neg h1, if_neg h2, if_neg h3, if_neg h4, if_pos rfl, hi, if_neg i10, bnd_e, bnd_e]
    · refine ⟨G, G', -2, ?_, ?_, hR⟩
      · unfold f_X11_set j_X11_set_133 j_X11_set_164
        rw [if_neg h0, if_neg h1, if_neg h2, if_neg h3, if_neg h4, if_pos rfl, ho, if_neg i10]
      · unfold f_X12_set
        rw [if_neg h0, if_neg h1, if_neg h2, if_neg h3, if_neg h4, if_pos rfl, hi, if_pos rfl]
  refine ⟨G, G', -2, ?_, ?_, hR⟩
  · unfold f_X11_set j_X11_set_133 j_X11_set_164
    rw [if_neg h0, if_neg h1, if_neg h2, if_neg h3, if_neg h4, if_neg h5]
  · unfold f_X12_set
    rw [if_neg h0, if_neg h1, if_neg h2, if_neg h3, if_neg h4, if_neg h5]
theorem sg_rng {z : Nat} {G : Mem} {O : MemO} {S : Nat → Nat} {G' : Mem} (h : R_sg z G O S G') (x : Int32) : (∃ i, i < z ∧ i < 10 ∧ x = nI i ∧ f_X11_outside x (G 100 4) = 0 ∧ f_X12_isSinger G' x = 1 ∧ inB x 10 = true ∧ x.toNatClampNeg = i) ∨ (f_X11_outside x (G 100 4) = 1 ∧ f_X12_isSinger G' x = 0) := by
  obtain ⟨hz, h1, h2, -⟩ := h
  unfold f_X12_isSinger
  rw [h1, h2]
  rcases rng x (nI z) (nI z - 1) z (by omega) rfl rfl with ⟨i, hi, rfl, ho, hi2⟩ | ⟨ho, hi2, -⟩
  · exact Or.inl ⟨i, hi, by omega, rfl, ho, hi2, inB_n (by omega) (by decide), nI_clamp (by omega)⟩
  · exact Or.inr ⟨ho, hi2⟩
theorem ag_voice : Ag_voice RR := by
  intro z t G L O S G' x1 x2 hR
  obtain ⟨hsg, hpc, hla, hke, htx, htp, hsh, hco⟩ := id hR
  unfold f_X11_voice f_X12_voice
  rcases sg_rng hsg x1 with ⟨i, hi, hi10, rfl, ho, his, hb, hc⟩ | ⟨ho, his⟩
  · rw [ho, his, if_pos rfl, if_neg i10]
    rcases chg G 106 10 (by decide) (nI i) x2 4 9 3 4 (by decide) rfl (by decide) (by decide) with ⟨j, k, hj, hk, hij, rfl, i2, i3, hcg⟩ | ⟨hh, hcg⟩
    · have hij2 : i = j := (nI_eq (by omega) (by omega)).mp hij
      subst hij2
      refine ⟨up2 G 106 i (nI k), up2 G' 6 i (nI k), G' 6 i, ?_, ?_, ⟨?_, hpc.cg (fun b j hp => up2_o (by omega)) (fun b j hp => up2_o (by omega)), hla.cg (fun b j hp => up2_o (by omega)) (fun b j hp => up2_o (by omega)), hke.cg (fun b j hp => up2_o (by omega)) (fun b j hp => up2_o (by omega)), htx.cg (fun b j hp => up2_o (by omega)) (fun b j hp => up2_o (by omega)), htp.cg (fun b j hp => up2_o (by omega)) (fun b j hp => up2_o (by omega)), hsh.cg (fun b j hp => up2_o (by omega)) (fun b j hp => up2_o (by omega)), hco.cg (fun b j hp => up2_o (by omega))⟩⟩
      · rw [hcg, bndP_e, (hsg.2.2.2 i hi).2.2.2.2.2.2.2.2.2.1]
      · rw [i3, if_neg i10, chk_t hb, bnd_e, chk_t hb, bnd_e, hc]
      · refine ⟨hsg.1, hsg.2.1, hsg.2.2.1, fun a ha => ?_⟩
        have q := hsg.2.2.2 a ha
        have e1 : ∀ b, up2 G 106 i (nI k) (1000 + a) b = G (1000 + a) b := fun b => up2_o (by omega)
        rw [e1, e1, e1]
        rw [up2_o (b := 5) (Or.inl (by decide)), up2_o (b := 7) (Or.inl (by decide)), up2_o (b := 8) (Or.inl (by decide)), up2_o (b := 9) (Or.inl (by decide))]
        refine ⟨q.1, q.2.1, q.2.2.1, q.2.2.2.1, q.2.2.2.2.1, q.2.2.2.2.2.1, q.2.2.2.2.2.2.1, q.2.2.2.2.2.2.2.1, q.2.2.2.2.2.2.2.2.1, ?_⟩
        by_cases hai : a = i
        · subst hai
          rw [up2_aa, up2_aa]
          exact ⟨rfl, k, hk, rfl⟩
        · rw [up2_an _ _ _ hai, up2_an _ _ _ hai]
          exact q.2.2.2.2.2.2.2.2.2
    · refine ⟨G, G', -2, ?_, ?_, hR⟩
      · rw [hcg, bndP_e]
      · rcases hh with hh | ⟨-, hh⟩
        · rcases rng (nI i) (nI 10) 9 10 (by decide) rfl (by decide) with ⟨j, hj, hij, ho2, hi2⟩ | ⟨ho2, hi2, hne⟩
          · rw [hi2] at hh
            exact absurd hh (by decide)
          · exact absurd rfl (hne i hi10)
        · rw [hh, if_pos rfl]
  · refine ⟨G, G', -2, ?_, ?_, hR⟩
    · rw [ho, if_neg i10]
    · rw [his, if_pos rfl]
theorem ag_force : Ag_force RR := by
  intro z t G L O S G' x1 hR
  obtain ⟨hsg, hpc, hla, hke, htx, htp, hsh, hco⟩ := id hR
  obtain ⟨ht1, ht6, e1, e2, -⟩ := id htx
  unfold f_X11_force f_X12_force
  rw [e1, e2]
  rcases rng x1 (nI t) (nI t - 1) t (by omega) rfl rfl with ⟨k, hk, rfl, ho, hi⟩ | ⟨ho, hi, -⟩
  · refine ⟨up2 G 101 7 (nI k), up2 G' 0 16 (nI k), G' 0 16, ?_, ?_, ⟨hsg.cg (fun b j hp => up2_o (by omega)) (fun b j hp => up2_o (by omega)), hpc.cg (fun b j hp => up2_o (by omega)) (fun b j hp => up2_o (by omega)), ⟨⟨by rw [up2_o (Or.inr (by decide)), up2_o (Or.inr (by decide))]; exact hla.1.1, by rw [up2_o (Or.inr (by decide))]; exact hla.1.2⟩, ⟨by rw [up2_o (Or.inr (by decide)), up2_o (Or.inr (by decide))]; exact hla.2.1.1, by rw [up2_o (Or.inr (by decide))]; exact hla.2.1.2⟩, by rw [up2_aa, up2_aa], by rw [up2_aa]; exact ⟨k, hk, rfl⟩⟩, hke.cg (fun b j hp => up2_o (by omega)) (fun b j hp => up2_o (by omega)), htx.cg (fun b j hp => up2_o (by omega)) (fun b j hp => up2_o (by omega)), htp.cg (fun b j hp => up2_o (by omega)) (fun b j hp => up2_o (by omega)), hsh.cg (fun b j hp => up2_o (by omega)) (fun b j hp => up2_o (by omega)), hco.cg (fun b j hp => up2_o (by omega))⟩⟩
    · rw [ho, if_pos rfl, bnd_e, bnd_e, hla.2.2.1]
    · rw [hi, if_neg i10, bnd_e, bnd_e]
  · exact ⟨G, G', -2, by rw [ho, if_neg i10], by rw [hi, if_pos rfl], hR⟩
theorem ag_fewest : Ag_fewest RR := by
  intro z t G L O S G' x1 x2 x3 hR
  unfold f_X11_fewest f_X12_fewest f_X12_in
  by_cases a1 : x1 < 1
  · exact ⟨-2, by rw [if_pos a1], by rw [if_pos a1, if_pos rfl], hR⟩
  by_cases a2 : 40 < x1
  · exact ⟨-2, by rw [if_neg a1, if_pos a2], by rw [if_neg a1, if_pos a2, if_pos rfl], hR⟩
  by_cases a3 : x2 < 1
  · exact ⟨-2, by rw [if_neg a1, if_neg a2, if_pos a3], by rw [if_neg a1, if_neg a2, if_neg i10, if_pos a3, if_pos rfl], hR⟩
  by_cases a4 : 18 < x2
  · exact ⟨-2, by rw [if_neg a1, if_neg a2, if_neg a3, if_pos a4], by rw [if_neg a1, if_neg a2, if_neg i10, if_neg a3, if_pos a4, if_pos rfl], hR⟩
  by_cases a5 : x3 < 0
  · exact ⟨-2, by rw [if_neg a1, if_neg a2, if_neg a3, if_neg a4, if_pos a5], by rw [if_neg a1, if_neg a2, if_neg i10, if_neg a3, if_neg a4, if_neg i10, if_pos a5, if_pos rfl], hR⟩
  by_cases a6 : 99 < x3
  · exact ⟨-2, by rw [if_neg a1, if_neg a2, if_neg a3, if_neg a4, if_neg a5, if_neg (Int32.not_le.mpr a6)], by rw [if_neg a1, if_neg a2, if_neg i10, if_neg a3, if_neg a4, if_neg i10, if_neg a5, if_pos a6, if_pos rfl], hR⟩
  have hx : neB x1 = true := decide_eq_true (fun e => a1 (by rw [e]; decide))
  exact ⟨_, by rw [if_neg a1, if_neg a2, if_neg a3, if_neg a4, if_neg a5, if_pos (Int32.not_lt.mp a6), chk_t hx], by rw [if_neg a1, if_neg a2, if_neg i10, if_neg a3, if_neg a4, if_neg i10, if_neg a5, if_neg a6, if_neg i10, chk_t hx], hR⟩
