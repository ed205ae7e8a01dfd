-- the two sides' contexts out of the relation
theorem RR_ctx {z t : Nat} {G : Mem} {L : MemL} {O : MemO} {S : Nat → Nat} {G' : Mem} (hR : RR z t G L O S G') {w : Nat} (hw : w < 7) (hmiss : ¬ f_X12_in (nI w) 2 5 = 0 → ¬ G' 31 (w - 2) = -1) : ∃ (r : Nat) (ev : Nat → (Nat → Int32) → Int32) (pl : Nat → Nat → Bool) (C : Mem) (L1 : MemL), f_X11_prepare G L O S (nI w) = some (C, L1, up2 O 128 12 (some (2000 + 4 * r))) ∧ (∀ (B : Mem) (km : Nat), (∀ b, 1 ≤ b ∧ b ≤ 9 → B b = G' b) → km ≤ 1000 → ((w ≠ 0 ∧ w ≠ 6) → km ≤ 48) → CxC C L1 (up2 O 128 12 (some (2000 + 4 * r))) S B ev w r pl z km 99 0) ∧ (∀ (B : Mem) (lo : Nat → Int32) (km : Nat), (∀ b, (1 ≤ b ∧ b ≤ 13 ∧ b ≠ 6) ∨ b = 32 ∨ b = 33 → B b = G' b) → (∀ i, i < z → rgB (B 6 i) 4) → B 0 7 = nI z → B 0 16 = G' 0 16 → B 0 38 = -1 → (∀ k, k < km → (0 ≤ B 0 40 ∧ lo k = B 0 40) ∨ (¬ 0 ≤ B 0 40 ∧ k < 48 ∧ lo k = B 1 k)) → (w = 1 → km ≤ 48) → km ≤ 1000 → CxR B ev (nI w) lo pl z km) ∧ (∀ b, ¬ (scC b ∨ b = 134) → C b = G b) ∧ CMem C z 0 99 0 (fun _ => (0, 0, 0, true)) (fun _ => 0) C ∧ OW S O (up2 O 128 12 (some (2000 + 4 * r))) ∧ (¬ f_X12_in (nI w) 2 5 = 0 → ∃ ln, ln ≤ 40 ∧ G' 32 (w - 2) = nI ln ∧ pl = (fun i k => plF (fun j => G' 33 (40 * (w - 2) + j)) i k (ln / 2)) ∧ ∀ i, i < z → plB (L1 133 i) (fun k => pl i k)) ∧ (∀ (plq : Nat → Nat → Bool) (B : Mem) (lo : Nat → Int32) (km : Nat), (∀ b, (1 ≤ b ∧ b ≤ 13 ∧ b ≠ 6) ∨ b = 32 ∨ b = 33 → B b = G' b) → (∀ i, i < z → rgB (B 6 i) 4) → B 0 7 = nI z → B 0 16 = G' 0 16 → (¬ f_X12_in (nI w) 2 5 = 0 → ∀ i k, i < z → k < km → ∀ Gx : Mem, Gx 0 = B 0 → Gx 32 = B 32 → Gx 33 = B 33 → f_X12_isPlanned Gx (nI w - 2) (nI i) (nI k) = some (b2 (plq i k))) → (∀ k, k < km → (0 ≤ B 0 40 ∧ lo k = B 0 40) ∨ (¬ 0 ≤ B 0 40 ∧ k < 48 ∧ lo k = B 1 k)) → (w = 1 → km ≤ 48) → km ≤ 1000 → CxR B ev (nI w) lo plq z km) := by
  obtain ⟨hsg, hpc, hla, hke, htx, htp, hsh, hco⟩ := id hR
  obtain ⟨hz, g1, g2, g3⟩ := id hsg
  obtain ⟨t1, t6, g4, g5, g6⟩ := id htx
  obtain ⟨g7, r, hr, g8⟩ := hla.2.2
  obtain ⟨o1, o2, ac, wi, en, o3, o4, o5⟩ := g6 r hr
  have htxE : txE S (2000 + 4 * r) = true := decide_eq_true ⟨by omega, by omega, o2⟩
  -- the memory behind choose
  obtain ⟨G5, hG5⟩ : ∃ x, x = up2 (up2 (up2 G 128 10 (nI w)) 128 11 (nI z)) 128 14 (-1) := ⟨_, rfl⟩
  have b5 : ∀ b, b ≠ 128 → G5 b = G b := fun b hb => by rw [hG5, up2_n _ _ _ hb, up2_n _ _ _ hb, up2_n _ _ _ hb]
  have f11 : G5 128 11 = nI z := by rw [hG5, up2_an _ _ _ (by decide), up2_aa]
  have f10 : G5 128 10 = nI w := by rw [hG5, up2_an _ _ _ (by decide), up2_an _ _ _ (by decide), up2_aa]
  have f14 : G5 128 14 = -1 := by rw [hG5, up2_aa]
  have hch : f_X1_choose G O (nI w) (G 100 4) (2000 + 4 * r) = some (G5, up2 O 128 12 (some (2000 + 4 * r))) := by
    unfold f_X1_choose
    rw [bnd_e, bnd_e, bnd_e, bnd_e, g1, ← hG5]
  have hpre : ∀ A : Mem → MemO → Option (Mem × MemL × MemO), chk (inB (G 101 7) 6) (bndO (O 117 (G 101 7).toNatClampNeg) (fun e2 => chk (txE S e2) (bndP (f_X1_choose G O (nI w) (G 100 4) e2) (fun G5 O6 => A G5 O6)))) = (A G5 (up2 O 128 12 (some (2000 + 4 * r))) : Option (Mem × MemL × MemO)) := by
    intro A
    rw [g7, g8, chk_t (inB_n (show r < 6 by omega) (by decide)), nI_clamp (by omega), o1, bndO_e, chk_t htxE, hch, bndP_e]
  obtain ⟨C, hst, s1, s2, s3, s4, s5⟩ := start11 (G := G5) (B := G') hz f11 (fun i hi => by rw [b5 106 (by decide)]; exact (g3 i hi).2.2.2.2.2.2.2.2.2)
  have hCb : ∀ b, ¬ (scC b ∨ b = 134) → C b = G b := by
    intro b hb
    unfold scC at hb
    rw [s1 b (by omega), b5 b (by omega)]
  have hCM : CMem C z 0 99 0 (fun _ => (0, 0, 0, true)) (fun _ => 0) C := by
    refine ⟨fun _ _ => rfl, fun _ _ => rfl, fun i hi _ => ?_, s5, fun v hv => (s4 v hv).2⟩
    exact s3 i (by omega)
  have hOW : OW S O (up2 O 128 12 (some (2000 + 4 * r))) := Or.inr ⟨_, htxE, rfl⟩
  -- the common part of the class's context
  have mkC : ∀ (pl : Nat → Nat → Bool) (L1 : MemL), (¬ f_X12_in (nI w) 2 5 = 0 → ∀ i, i < z → plB (L1 133 i) (fun k => pl i k)) → ∀ (B : Mem) (km : Nat), (∀ b, 1 ≤ b ∧ b ≤ 9 → B b = G' b) → km ≤ 1000 → ((w ≠ 0 ∧ w ≠ 6) → km ≤ 48) → CxC C L1 (up2 O 128 12 (some (2000 + 4 * r))) S B (fun p f => evV ac wi en p f) w r pl z km 99 0 := by
    intro pl L1 hpl B km hB hkm hk48
    refine ⟨hz, hw, by rw [s2 10 (by decide), f10], by rw [s2 11 (by decide), f11], Or.inr ⟨by rw [s2 14 (by decide), f14], by omega⟩, fun i hi => ?_, fun k hk => ?_, fun v hv => ?_, fun v hv => ?_, ⟨up2_aa _ _ _ _, htxE, fun p hp Gx f h1 h2 h3 => ?_⟩, hk48, fun h i k hi hk => ?_, hkm⟩
    · obtain ⟨q1, q2, q3, q4, q5, q6, q7, q8, q9, q10, q11⟩ := g3 i hi
      rw [hB 5 (by omega), hB 6 (by omega), hB 7 (by omega), hB 8 (by omega), hB 9 (by omega), hCb (1000 + i) (by unfold scC; omega), hCb 106 (by unfold scC; omega), up2_o (Or.inl (by decide))]
      exact ⟨q1, q2, q3, q4, q5, q6, q8, q10, q11⟩
    · rw [hB 2 (by omega), hCb 103 (by unfold scC; omega)]
      exact (hpc.2.1 k hk).1
    · rw [hB 4 (by omega), hCb 105 (by unfold scC; omega)]
      exact (hpc.2.2.2 v hv).1
    · rw [hB 6 (by omega)]
      exact (s4 v hv).1
    · refine vV11 o3 ⟨o4.1, fun k hk => ?_, fun j hj => ?_⟩ hp h3
      · rw [h1, hCb _ (by unfold scC; omega)]
        exact o4.2.1 k hk
      · rw [h2, hCb _ (by unfold scC; omega)]
        exact o4.2.2 j hj
    · have : w ≠ 0 ∧ w ≠ 6 := ⟨fun q => h (by rw [q]; decide), fun q => h (by rw [q]; decide)⟩
      have := hk48 this
      exact par64 (hpl h i hi) (by omega)
  have mkG : ∀ (plq : Nat → Nat → Bool) (B : Mem) (lo : Nat → Int32) (km : Nat), (∀ b, (1 ≤ b ∧ b ≤ 13 ∧ b ≠ 6) ∨ b = 32 ∨ b = 33 → B b = G' b) → (∀ i, i < z → rgB (B 6 i) 4) → B 0 7 = nI z → B 0 16 = G' 0 16 → (¬ f_X12_in (nI w) 2 5 = 0 → ∀ i k, i < z → k < km → ∀ Gx : Mem, Gx 0 = B 0 → Gx 32 = B 32 → Gx 33 = B 33 → f_X12_isPlanned Gx (nI w - 2) (nI i) (nI k) = some (b2 (plq i k))) → (∀ k, k < km → (0 ≤ B 0 40 ∧ lo k = B 0 40) ∨ (¬ 0 ≤ B 0 40 ∧ k < 48 ∧ lo k = B 1 k)) → (w = 1 → km ≤ 48) → km ≤ 1000 → CxR B (fun p f => evV ac wi en p f) (nI w) lo plq z km := by
    intro plq B lo km hB hv6 h7 h16 hplan hlo hw1 hkm
    refine ⟨hz, h7, hv6, hlo, fun h => hw1 ((nI_eq (b := 1) (by omega) (by decide)).mp h), fun p hp Gx f a0 a11 a12 a13 af => ?_, fun h i k hi hk Gx a0 a32 a33 => hplan h i k hi hk Gx a0 a32 a33, fun i hi => ?_, hkm⟩
    · refine vV12 (r := r) (show r < 6 by omega) (by rw [a0, h16, g8]) o3 ?_ hp af
      have h5 := o5
      unfold txR at h5 ⊢
      rw [a11, a12, a13, hB 11 (by omega), hB 12 (by omega), hB 13 (by omega)]
      exact h5
    · rw [hB 5 (by omega), hB 9 (by omega)]
      exact ⟨(g3 i hi).2.2.2.2.2.1, (g3 i hi).2.2.2.2.2.2.2.1⟩
  have mkR : ∀ (pl : Nat → Nat → Bool), (¬ f_X12_in (nI w) 2 5 = 0 → ∃ ln, ln ≤ 40 ∧ G' 32 (w - 2) = nI ln ∧ w - 2 < 4 ∧ pl = fun i k => plF (fun j => G' 33 (40 * (w - 2) + j)) i k (ln / 2)) → ∀ (B : Mem) (lo : Nat → Int32) (km : Nat), (∀ b, (1 ≤ b ∧ b ≤ 13 ∧ b ≠ 6) ∨ b = 32 ∨ b = 33 → B b = G' b) → (∀ i, i < z → rgB (B 6 i) 4) → B 0 7 = nI z → B 0 16 = G' 0 16 → B 0 38 = -1 → (∀ k, k < km → (0 ≤ B 0 40 ∧ lo k = B 0 40) ∨ (¬ 0 ≤ B 0 40 ∧ k < 48 ∧ lo k = B 1 k)) → (w = 1 → km ≤ 48) → km ≤ 1000 → CxR B (fun p f => evV ac wi en p f) (nI w) lo pl z km := by
    intro pl hpl B lo km hB hv6 h7 h16 h38 hlo hw1 hkm
    refine mkG pl B lo km hB hv6 h7 h16 (fun h i k hi hk Gx a0 a32 a33 => ?_) hlo hw1 hkm
    obtain ⟨ln, l1, l2, l3, l4⟩ := hpl h
    have e : nI w - 2 = nI (w - 2) := subI (b := 2) (by
      have : ¬ (w = 0 ∨ w = 1) := by
        rintro (q | q)
        · exact h (by rw [q]; decide)
        · exact h (by rw [q]; decide)
      omega)
    rw [e, plan12 l3 l1 (by rw [a32, hB 32 (by omega), l2]), l4, a0, h38, a33, hB 33 (by omega), decide_eq_false (show ¬ (-1 : Int32) = nI i from fun q => nIm1 (by omega) q.symm)]
    simp
  unfold f_X11_prepare
  rw [hpre]
  by_cases hp : f_X12_in (nI w) 2 5 = 0
  · refine ⟨r, _, fun _ _ => false, C, L, ?_, mkC _ L (fun q => absurd hp q), mkR _ (fun q => absurd hp q), hCb, hCM, hOW, (fun q => absurd hp q), mkG⟩
    rw [isPlan_eq, if_pos hp, hst, bndO_e]
  · have hw2 : 2 ≤ w ∧ w < 6 := by
      constructor
      · have : ¬ (w = 0 ∨ w = 1) := by
          rintro (q | q)
          · exact hp (by rw [q]; decide)
          · exact hp (by rw [q]; decide)
        omega
      · have : ¬ w = 6 := fun q => hp (by rw [q]; decide)
        omega
    obtain ⟨p1, p2, p3⟩ := hsh (w - 2) (by omega)
    obtain ⟨p4, ln, l1, l2, l3, l4⟩ := p3.resolve_left (hmiss hp)
    have e : nI w - 2 = nI (w - 2) := subI (b := 2) hw2.1
    obtain ⟨L1, hL1, hL2⟩ := plan11 (G := G5) (L := L) (e := 120 + (w - 2)) (ln := ln) (n := z) (it := fun j => G' 33 (40 * (w - 2) + j)) hz f11 l1 (by rw [b5 _ (by omega)]; exact l2) (fun j hj => by rw [b5 _ (by omega), show 120 + (w - 2) + 4 = 124 + (w - 2) by omega]; exact l4 j hj)
    refine ⟨r, _, fun i k => plF (fun j => G' 33 (40 * (w - 2) + j)) i k (ln / 2), C, L1, ?_, mkC _ L1 (fun _ => hL2), mkR _ (fun _ => ⟨ln, l1, l3, by omega, rfl⟩), hCb, hCM, hOW, (fun _ => ⟨ln, l1, l3, rfl, hL2⟩), mkG⟩
    rw [isPlan_eq, if_neg hp, e, chk_t (inB_n (show w - 2 < 4 by omega) (by decide)), nI_clamp (by omega), up2_o (Or.inl (by decide)), p1, bndO_e, chk_t (shE_i (by omega)), hL1, bndO_e, hst, bndO_e]
theorem miss11 {z t : Nat} {G : Mem} {L : MemL} {O : MemO} {S : Nat → Nat} {G' : Mem} (hR : RR z t G L O S G') {w : Nat} (hw : w < 7) : (f_X11_isMissing G O S (nI w) = some 0 ∧ f_X12_isMissing G' (nI w) = some 0 ∧ (¬ f_X12_in (nI w) 2 5 = 0 → ¬ G' 31 (w - 2) = -1)) ∨ (f_X11_isMissing G O S (nI w) = some 1 ∧ f_X12_isMissing G' (nI w) = some 1) := by
  unfold f_X11_isMissing f_X12_isMissing
  rw [isPlan_eq]
  by_cases hp : f_X12_in (nI w) 2 5 = 0
  · exact Or.inl ⟨by rw [if_pos hp], by rw [if_pos hp], fun q => absurd hp q⟩
  · have hw2 : 2 ≤ w ∧ w < 6 := by
      constructor
      · have : ¬ (w = 0 ∨ w = 1) := by
          rintro (q | q)
          · exact hp (by rw [q]; decide)
          · exact hp (by rw [q]; decide)
        omega
      · have : ¬ w = 6 := fun q => hp (by rw [q]; decide)
        omega
    obtain ⟨p1, p2, p3⟩ := hR.2.2.2.2.2.2.1 (w - 2) (by omega)
    have e : nI w - 2 = nI (w - 2) := subI (b := 2) hw2.1
    have hb : inB (nI (w - 2)) 4 = true := inB_n (by omega) (by decide)
    rw [if_neg hp, if_neg hp, e, chk_t hb, chk_t hb, nI_clamp (by omega), p1, bndO_e, chk_t (shE_i (by omega))]
    rcases srt (p3.imp id (fun q => q.1)) with ⟨a1, a2, a3⟩ | ⟨a1, a2, a3⟩
    · exact Or.inr ⟨by rw [if_neg (fun q => m11.mp q (p2.trans a1))], by rw [if_neg a2]⟩
    · exact Or.inl ⟨by rw [if_pos (m11.mpr (by rw [p2]; exact a1))], by rw [if_pos a2], fun _ => a1⟩
/-- for how many steps each voice has been thin -/
noncomputable def thS (B : Mem) (ev : Nat → (Nat → Int32) → Int32) (way : Int32) (lo : Nat → Int32) (pl : Nat → Nat → Bool) (n ls lk : Nat) : Nat → Nat → Int32
  | 0 => fun _ => 0
  | k + 1 => thN B n (runS B ev way lo pl n ls lk (k + 1)) (thS B ev way lo pl n ls lk k)
theorem stepC {C : Mem} {L : MemL} {O : MemO} {S : Nat → Nat} {B : Mem} {ev : Nat → (Nat → Int32) → Int32} {w r : Nat} {lo : Nat → Int32} {pl : Nat → Nat → Bool} {n km ls lk k : Nat} {G : Mem} (hC : CxC C L O S B ev w r pl n km ls lk) (hk : k < km) (hok : stOK n (runS B ev (nI w) lo pl n ls lk k)) (hG : CMem C n k ls lk (runS B ev (nI w) lo pl n ls lk k) (thS B ev (nI w) lo pl n ls lk k) G) : ∃ Gz, f_X1_advance G L O S (nI k) (lo k) = some Gz ∧ CMem C n (k + 1) ls lk (runS B ev (nI w) lo pl n ls lk (k + 1)) (thS B ev (nI w) lo pl n ls lk (k + 1)) Gz ∧ stOK n (runS B ev (nI w) lo pl n ls lk (k + 1)) := by
  obtain ⟨Gz, h1, h2⟩ := adv11 (lo := lo) hC hk hok hG
  exact ⟨Gz, h1, h2, stOK_s (fun i hi => ⟨(hC.2.2.2.2.2.1 i hi).2.2.2.2.2.1, (hC.2.2.2.2.2.1 i hi).2.2.2.2.2.2.1⟩) hok⟩
/-- RR holds on, when only what a run writes has changed -/
theorem RR.run {z t : Nat} {G G1 : Mem} {L L1 : MemL} {O O1 : MemO} {S : Nat → Nat} {G' G1' : Mem} (h : RR z t G L O S G') (h1 : ∀ b, ¬ (scC b ∨ b = 134 ∨ b = 136) → G1 b = G b) (h2 : ∀ b, b ≠ 0 → ¬ (scR b ∨ b = 24 ∨ b = 25) → G1' b = G' b) (h3 : ∀ j, ¬ (36 ≤ j ∧ j ≤ 40) → G1' 0 j = G' 0 j) (hO : ∃ e, O1 = O ∨ O1 = up2 O 128 12 e) : RR z t G1 L1 O1 S G1' := by
  obtain ⟨hsg, hpc, hla, hke, htx, htp, hsh, hco⟩ := h
  have c1 : ∀ b j, ¬ (scC b ∨ b = 134 ∨ b = 136) → G1 b j = G b j := fun b j hb => by rw [h1 b hb]
  have c2 : ∀ b j, b ≠ 0 → ¬ (scR b ∨ b = 24 ∨ b = 25) → G1' b j = G' b j := fun b j h0 hb => by rw [h2 b h0 hb]
  have c3 : ∀ b j, (b = 0 ∧ ¬ (36 ≤ j ∧ j ≤ 40)) ∨ (b ≠ 0 ∧ ¬ (scR b ∨ b = 24 ∨ b = 25)) → G1' b j = G' b j := by
    intro b j hb
    rcases hb with ⟨rfl, hb⟩ | ⟨ha, hb⟩
    · exact h3 j hb
    · exact c2 b j ha hb
  have o1 : ∀ b j, b ≠ 128 → O1 b j = O b j := by
    intro b j hb
    obtain ⟨e, hO | hO⟩ := hO
    · rw [hO]
    · rw [hO, up2_o (Or.inl hb)]
  have hsg' := hsg.cg (G1 := G1) (G1' := G1') (fun b j h => c1 b j (by unfold scC; omega)) (fun b j h => c3 b j (by unfold scR; omega))
  have htx' := htx.cg (G1 := G1) (G1' := G1') (fun b j h => c1 b j (by unfold scC; omega)) (fun b j h => c3 b j (by unfold scR; omega))
  have hsh' := hsh.cg (G1 := G1) (G1' := G1') (fun b j h => c1 b j (by unfold scC; omega)) (fun b j h => c3 b j (by unfold scR; omega))
  refine ⟨⟨hsg'.1, hsg'.2.1, hsg'.2.2.1, fun i hi => ⟨by rw [o1 _ _ (by decide)]; exact (hsg'.2.2.2 i hi).1, (hsg'.2.2.2 i hi).2⟩⟩, hpc.cg (fun b j h => c1 b j (by unfold scC; omega)) (fun b j h => c3 b j (by unfold scR; omega)), hla.cg (fun b j h => c1 b j (by unfold scC; omega)) (fun b j h => c3 b j (by unfold scR; omega)), hke.cg (fun b j h => c1 b j (by unfold scC; omega)) (fun b j h => c3 b j (by unfold scR; omega)), htx'.os (fun j => o1 _ _ (by decide)) (fun _ _ => rfl), htp.cg (fun b j h => c1 b j (by unfold scC; omega)) (fun b j h => c3 b j (by unfold scR; omega)), hsh'.os (fun j => o1 _ _ (by decide)), hco.cg (fun b j h => c3 b j (by unfold scR; omega))⟩
