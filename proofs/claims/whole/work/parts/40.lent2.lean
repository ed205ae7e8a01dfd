theorem ag_lent : Ag_lent RR := by
  intro z t G L O S G' x1 x2 x3 hR
  have hz := hR.1.1
  have bad : ∀ {A : Option (Mem × MemL × MemO × Int64)} {B : Option (Mem × Int64)}, A = some (G, L, O, -4611686018427387904) → B = some (G', -4611686018427387904) → ∃ (G1 : Mem) (L1 : MemL) (O1 : MemO) (G1' : Mem) (v : Int64), A = some (G1, L1, O1, v) ∧ B = some (G1', v) ∧ OW S O O1 ∧ RR z t G1 L1 O1 S G1' := fun h1 h2 => ⟨G, L, O, G', _, h1, h2, OW_rfl, hR⟩
  unfold f_X11_lent f_X12_lent
  rcases way_rng x1 with ⟨w, hw, rfl, ho, hi⟩ | ⟨ho, hi⟩
  rotate_left
  · exact bad (by rw [ho, if_neg i10]) (by rw [hi, if_pos rfl])
  rw [ho, hi, if_pos rfl, if_neg i10]
  have hm : ∃ m, f_X12_isMissing G' (nI w) = some m := by
    rcases miss11 hR hw with ⟨m1, m2, m3⟩ | ⟨m1, m2⟩
    · exact ⟨_, m2⟩
    · exact ⟨_, m2⟩
  obtain ⟨m, hm⟩ := hm
  have refNo : ∀ {K : Option (Mem × Int64)}, f_X12_isSinger G' x2 = 0 → (bndO (f_X12_isMissing G' (nI w)) fun v2 => if v2 = 0 then (if f_X12_isSinger G' x2 = 0 then some (G', -4611686018427387904) else K) else some (G', -4611686018427387904)) = some (G', -4611686018427387904) := by
    intro K h
    rw [hm, bndO_e, h, if_pos rfl]
    split <;> rfl
  rcases sg_rng hR.1 x2 with ⟨i, hi', hi10, rfl, ho2, his, hb2, hc2⟩ | ⟨ho2, his⟩
  rotate_left
  · exact bad (by rw [ho2, if_neg i10]) (refNo his)
  rw [ho2, if_pos rfl]
  rcases rng x3 4 3 4 (by decide) rfl (by decide) with ⟨v, hv, rfl, ho3, hi3⟩ | ⟨ho3, hi3, -⟩
  rotate_left
  · refine bad (by rw [ho3, if_neg i10]) ?_
    rw [hm, bndO_e, his, if_neg i10, hi3, if_pos rfl]
    split <;> rfl
  rw [ho3, if_pos rfl]
  rcases miss11 hR hw with ⟨m1, m2, m3⟩ | ⟨m1, m2⟩
  rotate_left
  · exact bad (by rw [m1, bndO_e, if_neg i10]) (by rw [m2, bndO_e, if_neg i10])
  obtain ⟨e, r, ev, pl, C, P, Gz, L1, Gz', last, l1, l2, l4, l3, p5, p6, h1, g1, y1, p7, p12, h2, h3, g2, g3, y2, p13, p14⟩ := badCtx hR hw m3
  obtain ⟨G2, hG2⟩ : ∃ x, x = up2 Gz' 6 i (nI v) := ⟨_, rfl⟩
  have h7' : G2 0 7 = nI z := by rw [hG2, up2_o (Or.inl (by decide)), y2 0 (by unfold scR; omega), bgR_0 (by decide)]; exact hR.1.2.2.1
  rw [m1, m2, bndO_e, bndO_e, if_pos rfl, if_pos rfl, his, if_neg i10, hi3, if_neg i10, p5, bndP3_e, h1, bndO_e, g1, bndP_e, p6, bndO_e, y1, bndP_e, chk_t hb2, bnd_e, chk_t hb2, bnd_e, hc2, chk_t hb2, bnd_e, chk_t hb2, bnd_e, ← hG2, begin12 hz h7', bndO_e]
  obtain ⟨B2, hB2⟩ : ∃ x, x = bgR G2 z := ⟨_, rfl⟩
  obtain ⟨P2, hP2⟩ : ∃ x, x = up2 Gz 106 i (nI v) := ⟨_, rfl⟩
  rw [← hB2, ← hP2]
  have b2n : ∀ b, b ≠ 0 → b ≠ 6 → ¬ scR b → B2 b = G' b := fun b h0 h6 hb => by rw [hB2, bgR_sc h0 hb, hG2, up2_n _ _ _ h6, y2 b hb, bgR_sc h0 hb]
  have b20 : ∀ j, ¬ (36 ≤ j ∧ j ≤ 40) → B2 0 j = G' 0 j := fun j hj => by rw [hB2, bgR_0 (by omega), hG2, up2_o (Or.inl (by decide)), y2 0 (by unfold scR; omega), bgR_0 (by omega)]
  have b26 : ∀ j, B2 6 j = if j = i then nI v else G' 6 j := by
    intro j
    rw [hB2, bgR_sc (by decide) (by unfold scR; omega), hG2]
    by_cases hj : j = i
    · rw [hj, up2_aa, if_pos rfl]
    · rw [up2_an _ _ _ hj, if_neg hj, y2 6 (by unfold scR; omega), bgR_n (by decide)]
  have e38 : B2 0 38 = -1 := by
    rw [hB2]
    unfold bgR
    rw [up2_an _ _ _ (by decide), up2_aa]
  have e36 : B2 0 36 = -1 := by
    rw [hB2]
    unfold bgR
    rw [up2_an _ _ _ (by decide), up2_an _ _ _ (by decide), up2_aa]
  have e40 : B2 0 40 = -1 := by
    rw [hB2]
    exact up2_aa _ _ _ _
  have p2n : ∀ b, b ≠ 106 → P2 b = Gz b := fun b hb => by rw [hP2, up2_n _ _ _ hb]
  have p2f : ∀ b, b ≠ 106 → ¬ (scC b ∨ b = 134 ∨ b = 136) → P2 b = G b := by
    intro b h6 hb
    have hb' := hb
    unfold scC at hb'
    rw [p2n b h6, g2 b (by unfold scC; omega), h2 b (by omega), p12 b (by unfold scC; omega)]
  have gz106 : Gz 106 = G 106 := by rw [g2 106 (by unfold scC; omega), h2 106 (by omega), p12 106 (by unfold scC; omega)]
  have p106 : ∀ j, P2 106 j = if j = i then nI v else G 106 j := by
    intro j
    rw [hP2]
    by_cases hj : j = i
    · rw [hj, up2_aa, if_pos rfl]
    · rw [up2_an _ _ _ hj, if_neg hj, gz106]
  have hla := hR.2.2.1
  have woE : ∀ k, woS B2 ev k = woS (bgR G' z) ev k := fun k => by
    unfold woS
    have : fT B2 k = fT (bgR G' z) k := by
      funext j
      unfold fT
      rw [b2n 1 (by decide) (by decide) (by unfold scR; omega), bgR_n (by decide)]
    rw [this]
  have r6 : ∀ j, j < z → rgB (B2 6 j) 4 := by
    intro j hj
    rw [b26 j]
    by_cases hji : j = i
    · rw [if_pos hji]; exact ⟨v, hv, rfl⟩
    · rw [if_neg hji]; exact (hR.1.2.2.2 j hj).2.2.2.2.2.2.2.2.2.2
  have hCR : CxR B2 ev (nI w) (fun k => G' 1 k) pl z 48 := p14 B2 _ 48 (fun b hb => b2n b (by omega) (by omega) (by unfold scR; omega)) r6 (by rw [b20 7 (by omega)]; exact hR.1.2.2.1) (b20 16 (by omega)) e38 (fun k hk => Or.inr ⟨by rw [e40]; decide, hk, by rw [b2n 1 (by decide) (by decide) (by unfold scR; omega)]⟩) (fun _ => Nat.le_refl _) (by decide)
  have hM : RMem B2 z 0 (fun _ => (0, 0, 0, true)) B2 := by
    rw [hB2]
    exact begin12_M (fun _ _ => rfl)
  obtain ⟨Gx', x1', x2'⟩ := bad12 (ls := 99) (lk := 0) (last := last) hCR (Or.inr ⟨e36, by omega⟩) hM (by rw [b20 1 (by omega)]; exact l3) l2
  obtain ⟨Gx, x3, x4, x5⟩ := bad11 (lo := fun k => G' 1 k) (P := P2) (L2 := L1) (B := B2) (pl := pl) (ls := 99) (lk := 0) (last := last) p7 (fun b hb => by rw [p2n b (by omega), g2 b (by unfold scC; omega), h2 b (by omega)]) (by rw [p2n 128 (by decide), g3 10 (by decide), h2 128 (by omega)]) (by rw [p2n 128 (by decide), g3 11 (by decide), h2 128 (by omega)]) (Or.inr ⟨by rw [p2n 128 (by decide), g3 14 (by decide), h2 128 (by omega)]; exact (p7.2.2.2.2.1.resolve_left (fun q => by omega)).1, by omega⟩) (fun b hb => by rw [b2n b (by omega) (by omega) (by unfold scR; omega), bgR_n (by omega)]) (fun j hj => ⟨by rw [p106, b26, (hR.1.2.2.2 j hj).2.2.2.2.2.2.2.2.2.1], r6 j hj⟩) (fun h i k hi hk => p7.2.2.2.2.2.2.2.2.2.2.2.1 h i k hi hk) (by rw [p2f 101 (by decide) (by unfold scC; omega)]; exact l4) l2 (fun k hk => by rw [p2f 102 (by decide) (by unfold scC; omega), (hR.2.1.1 k hk).1]) (fun k => by rw [b2n 1 (by decide) (by decide) (by unfold scR; omega)]) (by rw [p2f 101 (by decide) (by unfold scC; omega), b20 2 (by omega)]; exact hla.2.1.1) (by rw [b20 2 (by omega)]; exact hla.2.1.2) (fun v hv => by rw [b2n 4 (by decide) (by decide) (by unfold scR; omega)]; exact (hR.2.1.2.2.2 v hv).2) (fun k hk => by rw [p2n 136 (by decide), g2 136 (by unfold scC; omega), h3 k hk, woE])
  rw [x3, bndP_e, x1', bndP_e, chk_t hb2, bnd_e, chk_t hb2, bnd_e]
  refine ⟨_, L1, _, _, _, rfl, rfl, p13, hR.run (fun b hb => ?_) (fun b h0 hb => ?_) (fun j hj => ?_) ⟨some e, Or.inr rfl⟩⟩
  · by_cases h6 : b = 106
    · subst h6
      funext j
      by_cases hj : j = i
      · rw [hj, up2_aa, gz106]
      · rw [up2_an _ _ _ hj, x4 106 (by unfold scC; omega), p106, if_neg hj]
    · rw [up2_n _ _ _ h6, x4 b (fun q => hb (q.elim Or.inl (fun h => Or.inr (Or.inl h)))), p2f b h6 hb]
  · by_cases h6 : b = 6
    · subst h6
      funext j
      by_cases hj : j = i
      · rw [hj, up2_aa, y2 6 (by unfold scR; omega), bgR_n (by decide)]
      · rw [up2_an _ _ _ hj, x2' 6 (by unfold scR; omega), b26, if_neg hj]
    · rw [up2_n _ _ _ h6, x2' b (fun q => hb (Or.inl q)), b2n b h0 h6 (fun q => hb (Or.inl q))]
  · rw [up2_n _ _ _ (by decide), x2' 0 (by unfold scR; omega), b20 j hj]
