/-- the class's weights and first sum, the reference's first sum -/
theorem badCtx {z t : Nat} {G : Mem} {L : MemL} {O : MemO} {S : Nat → Nat} {G' : Mem} (hR : RR z t G L O S G') {w : Nat} (hw : w < 7) (hmiss : ¬ f_X12_in (nI w) 2 5 = 0 → ¬ G' 31 (w - 2) = -1) : ∃ (e : Nat) (r : Nat) (ev : Nat → (Nat → Int32) → Int32) (pl : Nat → Nat → Bool) (C P Gz : Mem) (L1 : MemL) (Gz' : Mem) (last : Nat), 1 ≤ last ∧ last ≤ 48 ∧ G 101 5 = nI last ∧ G' 0 1 = nI last ∧ f_X11_prepare G L O S (nI w) = some (C, L1, up2 O 128 12 (some e)) ∧ f_X12_begin G' = some (bgR G' z) ∧ f_X1_weigh C (up2 O 128 12 (some e)) S = some P ∧ f_X1_badOfAll P L1 (up2 O 128 12 (some e)) S = some (Gz, badK (bgR G' z) ev (nI w) (fun k => G' 1 k) pl z 99 0 last) ∧ f_X12_badOf (bgR G' z) (nI w) = some (Gz', badK (bgR G' z) ev (nI w) (fun k => G' 1 k) pl z 99 0 last) ∧ CxC C L1 (up2 O 128 12 (some e)) S (bgR G' z) ev w r pl z 48 99 0 ∧ (∀ b, ¬ (scC b ∨ b = 134) → C b = G b) ∧ (∀ b, ¬ (b = 129 ∨ b = 136 ∨ (2000 ≤ b ∧ b % 4 = 3)) → P b = C b) ∧ (∀ k, k < last → P 136 k = woS (bgR G' z) ev k) ∧ (∀ b, ¬ (scC b ∨ b = 134) → Gz b = P b) ∧ (∀ j, j ≠ 13 → Gz 128 j = P 128 j) ∧ (∀ b, ¬ scR b → Gz' b = bgR G' z b) ∧ OW S O (up2 O 128 12 (some e)) ∧ (∀ (B : Mem) (lo : Nat → Int32) (km : Nat), (∀ b, (1 ≤ b ∧ b ≤ 13 ∧ b ≠ 6) ∨ b = 32 ∨ b = 33 → B b = G' b) → (∀ i, i < z → rgB (B 6 i) 4) → B 0 7 = nI z → B 0 16 = G' 0 16 → B 0 38 = -1 → (∀ k, k < km → (0 ≤ B 0 40 ∧ lo k = B 0 40) ∨ (¬ 0 ≤ B 0 40 ∧ k < 48 ∧ lo k = B 1 k)) → (w = 1 → km ≤ 48) → km ≤ 1000 → CxR B ev (nI w) lo pl z km) := by
  obtain ⟨e, r, ev, pl, C, L1, last, l1, l2, l4, l3, p5, p6, p7, p8, p9, p10, p11, p12, p13, p14⟩ := opCtx hR hw hmiss
  have hla := hR.2.2.1
  have c101 : C 101 = G 101 := p12 101 (by unfold scC; omega)
  obtain ⟨P, h1, h2, h3⟩ := weigh11 p7 (by rw [c101]; exact l4) l2 (fun k hk => by rw [p12 102 (by unfold scC; omega), (hR.2.1.1 k hk).1, bgR_n (by decide)])
  obtain ⟨Gz, g1, g2, g3⟩ := bad11 (lo := fun k => G' 1 k) (P := P) (L2 := L1) (B := bgR G' z) (pl := pl) (ls := 99) (lk := 0) (last := last) p7 (fun b hb => h2 b (by omega)) (by rw [h2 128 (by omega)]) (by rw [h2 128 (by omega)]) (Or.inr ⟨by rw [h2 128 (by omega)]; exact (p7.2.2.2.2.1.resolve_left (fun q => by omega)).1, by have := hR.1.1; omega⟩) (fun _ _ => rfl) (fun i hi => by rw [h2 106 (by omega)]; exact (p7.2.2.2.2.2.1 i hi).2.2.2.2.2.2.2) (fun h i k hi hk => p7.2.2.2.2.2.2.2.2.2.2.2.1 h i k hi hk) (by rw [h2 101 (by omega), c101]; exact l4) l2 (fun k hk => by rw [h2 102 (by omega), p12 102 (by unfold scC; omega), (hR.2.1.1 k hk).1]) (fun k => by rw [bgR_n (by decide)]) (by rw [h2 101 (by omega), c101, bgR_0 (by decide)]; exact hla.2.1.1) (by rw [bgR_0 (by decide)]; exact hla.2.1.2) (fun v hv => by rw [bgR_n (by decide)]; exact (hR.2.1.2.2.2 v hv).2) h3
  obtain ⟨Gz', y1, y2⟩ := bad12 (ls := 99) (lk := 0) (last := last) p8 p9 p11 (by rw [bgR_0 (by decide)]; exact l3) l2
  exact ⟨e, r, ev, pl, C, P, Gz, L1, Gz', last, l1, l2, l4, l3, p5, p6, h1, g1, y1, p7, p12, h2, h3, g2, g3, y2, p13, p14⟩
theorem ag_bad : Ag_bad RR := by
  intro z t G L O S G' x1 hR
  unfold f_X11_bad f_X12_bad
  rcases way_rng x1 with ⟨w, hw, rfl, ho, hi⟩ | ⟨ho, hi⟩
  rotate_left
  · exact ⟨G, L, O, G', _, by rw [ho, if_neg i10], by rw [hi, if_pos rfl], OW_rfl, hR⟩
  rw [ho, hi, if_pos rfl, if_neg i10]
  rcases miss11 hR hw with ⟨m1, m2, m3⟩ | ⟨m1, m2⟩
  rotate_left
  · exact ⟨G, L, O, G', _, by rw [m1, bndO_e, if_neg i10], by rw [m2, bndO_e, if_neg i10], OW_rfl, hR⟩
  obtain ⟨e, r, ev, pl, C, P, Gz, L1, Gz', last, l1, l2, l4, l3, p5, p6, h1, g1, y1, p7, p12, h2, h3, g2, g3, y2, p13, p14⟩ := badCtx hR hw m3
  rw [m1, m2, bndO_e, bndO_e, if_pos rfl, if_pos rfl, p5, bndP3_e, h1, bndO_e, g1, bndP_e, p6, bndO_e, y1, bndP_e]
  refine ⟨Gz, L1, _, Gz', _, rfl, rfl, p13, hR.run (fun b hb => ?_) (fun b h0 hb => ?_) (fun j hj => ?_) ⟨some e, Or.inr rfl⟩⟩
  · have hb' := hb
    unfold scC at hb'
    rw [g2 b (by unfold scC; omega), h2 b (by omega), p12 b (by unfold scC; omega)]
  · rw [y2 b (fun q => hb (Or.inl q)), bgR_sc h0 (fun q => hb (Or.inl q))]
  · rw [y2 0 (by unfold scR; omega), bgR_0 (by omega)]
theorem ag_lost : Ag_lost RR := by
  intro z t G L O S G' x1 x2 x3 hR
  have hz := hR.1.1
  have bad : ∀ {A : Option (Mem × MemL × MemO × Int64)} {B : Option (Mem × Int64)}, A = some (G, L, O, -4611686018427387904) → B = some (G', -4611686018427387904) → ∃ (G1 : Mem) (L1 : MemL) (O1 : MemO) (G1' : Mem) (v : Int64), A = some (G1, L1, O1, v) ∧ B = some (G1', v) ∧ OW S O O1 ∧ RR z t G1 L1 O1 S G1' := fun h1 h2 => ⟨G, L, O, G', _, h1, h2, OW_rfl, hR⟩
  unfold f_X11_lost f_X12_lost
  rcases way_rng x1 with ⟨w, hw, rfl, ho, hi⟩ | ⟨ho, hi⟩
  rotate_left
  · exact bad (by rw [ho, if_neg i10]) (by rw [hi, if_pos rfl])
  rw [ho, hi, if_pos rfl, if_neg i10]
  have hm : ∃ m, f_X12_isMissing G' (nI w) = some m := by
    rcases miss11 hR hw with ⟨m1, m2, m3⟩ | ⟨m1, m2⟩
    · exact ⟨_, m2⟩
    · exact ⟨_, m2⟩
  obtain ⟨m, hm⟩ := hm
  have refNo : ∀ {K : Option (Mem × Int64)}, f_X12_isSinger G' x2 = 0 → (bndO (f_X12_isMissing G' (nI w)) fun v2 => if v2 = 0 then (if f_X12_isSinger G' x2 = 0 then some (G', -4611686018427387904) else K) else some (G', -4611686018427387904)) = some (G', -4611686018427387904) := by
    intro K h
    rw [hm, bndO_e, h, if_pos rfl]
    split <;> rfl
  rcases sg_rng hR.1 x2 with ⟨i, hi', hi10, rfl, ho2, his, hb2, hc2⟩ | ⟨ho2, his⟩
  rotate_left
  · exact bad (by rw [ho2, if_neg i10]) (refNo his)
  rw [ho2, if_pos rfl]
  rcases rng x3 48 47 48 (by decide) rfl (by decide) with ⟨s, hs, rfl, ho3, hi3⟩ | ⟨ho3, hi3, -⟩
  rotate_left
  · refine bad (by rw [ho3, if_neg i10]) ?_
    rw [hm, bndO_e, his, if_neg i10, hi3, if_pos rfl]
    split <;> rfl
  rw [ho3, if_pos rfl]
  rcases miss11 hR hw with ⟨m1, m2, m3⟩ | ⟨m1, m2⟩
  rotate_left
  · exact bad (by rw [m1, bndO_e, if_neg i10]) (by rw [m2, bndO_e, if_neg i10])
  obtain ⟨e, r, ev, pl, C, P, Gz, L1, Gz', last, l1, l2, l4, l3, p5, p6, h1, g1, y1, p7, p12, h2, h3, g2, g3, y2, p13, p14⟩ := badCtx hR hw m3
  have h7' : Gz' 0 7 = nI z := by rw [y2 0 (by unfold scR; omega), bgR_0 (by decide)]; exact hR.1.2.2.1
  rw [m1, m2, bndO_e, bndO_e, if_pos rfl, if_pos rfl, his, if_neg i10, hi3, if_neg i10, p5, bndP3_e, h1, bndO_e, g1, bndP_e, p6, bndO_e, y1, bndP_e, begin12 hz h7', bndO_e, bnd_e, bnd_e]
  unfold f_X1_lose
  rw [bnd_e, bnd_e, bndO_e]
  -- the second memories
  obtain ⟨B2, hB2⟩ : ∃ x, x = up2 (up2 (bgR Gz' z) 0 36 (nI i)) 0 37 (nI s) := ⟨_, rfl⟩
  obtain ⟨P2, hP2⟩ : ∃ x, x = up2 (up2 Gz 128 14 (nI i)) 128 15 (nI s) := ⟨_, rfl⟩
  rw [← hB2, ← hP2]
  have b2n : ∀ b, b ≠ 0 → ¬ scR b → B2 b = G' b := fun b h0 hb => by rw [hB2, up2_n _ _ _ h0, up2_n _ _ _ h0, bgR_sc h0 hb, y2 b hb, bgR_sc h0 hb]
  have b20 : ∀ j, ¬ (36 ≤ j ∧ j ≤ 40) → B2 0 j = G' 0 j := fun j hj => by rw [hB2, up2_o (by omega), up2_o (by omega), bgR_0 (by omega), y2 0 (by unfold scR; omega), bgR_0 (by omega)]
  have e38 : B2 0 38 = -1 := by
    rw [hB2, up2_o (by omega), up2_o (by omega)]
    unfold bgR
    rw [up2_an _ _ _ (by decide), up2_aa]
  have e40 : B2 0 40 = -1 := by
    rw [hB2, up2_o (by omega), up2_o (by omega)]
    exact up2_aa _ _ _ _
  have p2n : ∀ b, b ≠ 128 → P2 b = Gz b := fun b hb => by rw [hP2, up2_n _ _ _ hb, up2_n _ _ _ hb]
  have p2f : ∀ b, ¬ (scC b ∨ b = 134 ∨ b = 136) → P2 b = G b := by
    intro b hb
    have hb' := hb
    unfold scC at hb'
    rw [p2n b (by omega), g2 b (by unfold scC; omega), h2 b (by omega), p12 b (by unfold scC; omega)]
  have hla := hR.2.2.1
  have woE : ∀ k, woS B2 ev k = woS (bgR G' z) ev k := fun k => by
    unfold woS
    have : fT B2 k = fT (bgR G' z) k := by
      funext j
      unfold fT
      rw [b2n 1 (by decide) (by unfold scR; omega), bgR_n (by decide)]
    rw [this]
  have hCR : CxR B2 ev (nI w) (fun k => G' 1 k) pl z 48 := p14 B2 _ 48 (fun b hb => b2n b (by omega) (by unfold scR; omega)) (fun i hi => by rw [b2n 6 (by decide) (by unfold scR; omega)]; exact (hR.1.2.2.2 i hi).2.2.2.2.2.2.2.2.2.2) (by rw [b20 7 (by omega)]; exact hR.1.2.2.1) (b20 16 (by omega)) e38 (fun k hk => Or.inr ⟨by rw [e40]; decide, hk, by rw [b2n 1 (by decide) (by unfold scR; omega)]⟩) (fun _ => Nat.le_refl _) (by decide)
  have hM : RMem B2 z 0 (fun _ => (0, 0, 0, true)) B2 := by
    refine ⟨fun _ _ => rfl, fun j hj => ?_⟩
    have := (begin12_M (G := Gz') (n := z) (B := bgR Gz' z) (fun _ _ => rfl)).2 j hj
    rw [hB2, up2_o (Or.inl (by decide)), up2_o (Or.inl (by decide)), up2_o (b := 19) (Or.inl (by decide)), up2_o (b := 19) (Or.inl (by decide)), up2_o (b := 20) (Or.inl (by decide)), up2_o (b := 20) (Or.inl (by decide))]
    exact ⟨this.1, this.2.1, this.2.2.1, Or.inl ⟨rfl, rfl⟩⟩
  obtain ⟨Gx', x1', x2'⟩ := bad12 (ls := i) (lk := s) (last := last) hCR (Or.inl ⟨by rw [hB2, up2_an _ _ _ (by decide), up2_aa], by rw [hB2, up2_aa], by omega, hs⟩) hM (by rw [b20 1 (by omega)]; exact l3) l2
  have r106 : P2 106 = C 106 := by rw [p2n 106 (by decide), g2 106 (by unfold scC; omega), h2 106 (by omega)]
  obtain ⟨Gx, x3, x4, x5⟩ := bad11 (lo := fun k => G' 1 k) (P := P2) (L2 := L1) (B := B2) (pl := pl) (ls := i) (lk := s) (last := last) p7 (fun b hb => by rw [p2n b (by omega), g2 b (by unfold scC; omega), h2 b (by omega)]) (by rw [hP2, up2_an _ _ _ (by decide), up2_an _ _ _ (by decide), g3 10 (by decide), h2 128 (by omega)]) (by rw [hP2, up2_an _ _ _ (by decide), up2_an _ _ _ (by decide), g3 11 (by decide), h2 128 (by omega)]) (Or.inl ⟨by rw [hP2, up2_an _ _ _ (by decide), up2_aa], by rw [hP2, up2_aa], by omega, hs⟩) (fun b hb => by rw [b2n b (by omega) (by unfold scR; omega), bgR_n (by omega)]) (fun j hj => by rw [r106, b2n 6 (by decide) (by unfold scR; omega)]; have := (p7.2.2.2.2.2.1 j hj).2.2.2.2.2.2.2; rw [bgR_n (by decide)] at this; exact this) (fun h i k hi hk => p7.2.2.2.2.2.2.2.2.2.2.2.1 h i k hi hk) (by rw [p2f 101 (by unfold scC; omega)]; exact l4) l2 (fun k hk => by rw [p2f 102 (by unfold scC; omega), (hR.2.1.1 k hk).1]) (fun k => by rw [b2n 1 (by decide) (by unfold scR; omega)]) (by rw [p2f 101 (by unfold scC; omega), b20 2 (by omega)]; exact hla.2.1.1) (by rw [b20 2 (by omega)]; exact hla.2.1.2) (fun v hv => by rw [b2n 4 (by decide) (by unfold scR; omega)]; exact (hR.2.1.2.2.2 v hv).2) (fun k hk => by rw [p2n 136 (by decide), g2 136 (by unfold scC; omega), h3 k hk, woE])
  rw [x3, bndP_e, x1', bndP_e]
  refine ⟨Gx, L1, _, Gx', _, rfl, rfl, p13, hR.run (fun b hb => ?_) (fun b h0 hb => ?_) (fun j hj => ?_) ⟨some e, Or.inr rfl⟩⟩
  · rw [x4 b (fun q => hb (q.elim Or.inl (fun h => Or.inr (Or.inl h)))), p2f b hb]
  · rw [x2' b (fun q => hb (Or.inl q)), b2n b h0 (fun q => hb (Or.inl q))]
  · rw [x2' 0 (by unfold scR; omega), b20 j hj]
