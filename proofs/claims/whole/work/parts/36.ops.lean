theorem msk_t {b : Nat → Bool} {k : Nat} (h : b k = true) : msk b (k + 1) = msk b k ||| (1 <<< (nI k &&& 31)) := by
  show (if b k then _ else _) = _
  rw [if_pos h]
theorem msk_f {b : Nat → Bool} {k : Nat} (h : b k = false) : msk b (k + 1) = msk b k := by
  show (if b k then _ else _) = _
  rw [if_neg (by rw [h]; decide)]
/-- what every way's call begins with -/
theorem opCtx {z t : Nat} {G : Mem} {L : MemL} {O : MemO} {S : Nat → Nat} {G' : Mem} (hR : RR z t G L O S G') {w : Nat} (hw : w < 7) (hmiss : ¬ f_X12_in (nI w) 2 5 = 0 → ¬ G' 31 (w - 2) = -1) : ∃ (e : Nat) (r : Nat) (ev : Nat → (Nat → Int32) → Int32) (pl : Nat → Nat → Bool) (C : Mem) (L1 : MemL) (last : Nat), 1 ≤ last ∧ last ≤ 48 ∧ G 101 5 = nI last ∧ G' 0 1 = nI last ∧ f_X11_prepare G L O S (nI w) = some (C, L1, up2 O 128 12 (some e)) ∧ f_X12_begin G' = some (bgR G' z) ∧ CxC C L1 (up2 O 128 12 (some e)) S (bgR G' z) ev w r pl z 48 99 0 ∧ CxR (bgR G' z) ev (nI w) (fun k => G' 1 k) pl z 48 ∧ lsR (bgR G' z) z 99 0 ∧ CMem C z 0 99 0 (fun _ => (0, 0, 0, true)) (fun _ => 0) C ∧ RMem (bgR G' z) z 0 (fun _ => (0, 0, 0, true)) (bgR G' z) ∧ (∀ b, ¬ (scC b ∨ b = 134) → C b = G b) ∧ OW S O (up2 O 128 12 (some e)) ∧ (∀ (B : Mem) (lo : Nat → Int32) (km : Nat), (∀ b, (1 ≤ b ∧ b ≤ 13 ∧ b ≠ 6) ∨ b = 32 ∨ b = 33 → B b = G' b) → (∀ i, i < z → rgB (B 6 i) 4) → B 0 7 = nI z → B 0 16 = G' 0 16 → B 0 38 = -1 → (∀ k, k < km → (0 ≤ B 0 40 ∧ lo k = B 0 40) ∨ (¬ 0 ≤ B 0 40 ∧ k < 48 ∧ lo k = B 1 k)) → (w = 1 → km ≤ 48) → km ≤ 1000 → CxR B ev (nI w) lo pl z km) := by
  obtain ⟨r, ev, pl, C, L1, h1, h2, h3, h4, h5, h6, -⟩ := RR_ctx hR hw hmiss
  obtain ⟨hsg, hpc, hla, -⟩ := id hR
  obtain ⟨last, l1, l2, l3⟩ := hla.1.2
  have hz := hsg.1
  have b40 : bgR G' z 0 40 = -1 := up2_aa _ _ _ _
  have b38 : bgR G' z 0 38 = -1 := by
    unfold bgR
    rw [up2_an _ _ _ (by decide), up2_aa]
  have b36 : bgR G' z 0 36 = -1 := by
    unfold bgR
    rw [up2_an _ _ _ (by decide), up2_an _ _ _ (by decide), up2_aa]
  refine ⟨2000 + 4 * r, r, ev, pl, C, L1, last, l1, l2, hla.1.1.trans l3, l3, h1, begin12 hz hsg.2.2.1, h2 _ 48 (fun b hb => bgR_n (by omega)) (by decide) (fun _ => Nat.le_refl _), h3 _ _ 48 (fun b hb => bgR_n (by omega)) (fun i hi => by rw [bgR_n (by decide)]; exact (hsg.2.2.2 i hi).2.2.2.2.2.2.2.2.2.2) (by rw [bgR_0 (by decide)]; exact hsg.2.2.1) (bgR_0 (by decide)) b38 (fun k hk => Or.inr ⟨by rw [b40]; decide, hk, by rw [bgR_n (by decide)]⟩) (fun _ => Nat.le_refl _) (by decide), Or.inr ⟨b36, by omega⟩, h5, begin12_M (fun _ _ => rfl), h4, h6, h3⟩
theorem perf11 {C : Mem} {L : MemL} {O : MemO} {S : Nat → Nat} {B : Mem} {ev : Nat → (Nat → Int32) → Int32} {w r : Nat} {lo : Nat → Int32} {pl : Nat → Nat → Bool} {n ls lk K last : Nat} {x1 : Int32} (hC : CxC C L O S B ev w r pl n 48 ls lk) (hl : C 101 5 = nI last) (hl48 : last ≤ 48) (hK : K < last) (hlo : ∀ k, k < 48 → C 102 k = lo k) (h0 : CMem C n 0 ls lk (fun _ => (0, 0, 0, true)) (fun _ => 0) C) : ∃ Gz, iter (q_X11_perform_7 S x1 (nI K)) fuel (C, L, O, 0) = some (Gz, L, O) ∧ CMem C n (K + 1) ls lk (runS B ev (nI w) lo pl n ls lk (K + 1)) (thS B ev (nI w) lo pl n ls lk (K + 1)) Gz := by
  refine iter_fuel (q_X11_perform_7 S x1 (nI K)) (fun k a => ∃ H : Mem, a = (H, L, O, nI k) ∧ CMem C n k ls lk (runS B ev (nI w) lo pl n ls lk k) (thS B ev (nI w) lo pl n ls lk k) H ∧ stOK n (runS B ev (nI w) lo pl n ls lk k)) (fun q => ∃ Gz, q = some (Gz, L, O) ∧ CMem C n (K + 1) ls lk (runS B ev (nI w) lo pl n ls lk (K + 1)) (thS B ev (nI w) lo pl n ls lk (K + 1)) Gz) (K + 1) (by omega) ?_ ?_ ⟨C, rfl, h0, stOK_0⟩
  · rintro k a hk ⟨H, rfl, e1, e2⟩ rec
    left
    unfold q_X11_perform_7
    show ∃ a', _ ∧ (if nI K < nI k then _ else (if H 101 5 ≤ nI k then _ else _)) = rec a'
    have r101 : H 101 = C 101 := e1.1 101 (by unfold scC; omega)
    have r102 : H 102 = C 102 := e1.1 102 (by unfold scC; omega)
    rw [if_neg (nI_nlt (by omega) (by omega)), r101, hl, if_neg (nI_ge (by omega) (by omega)), chk_t (inB_n (by omega) (by decide)), nI_clamp (by omega), r102, hlo k (by omega)]
    obtain ⟨Gz, g1, g2, g3⟩ := stepC (lo := lo) hC (by omega) e2 e1
    rw [g1, bndO_e, bnd_e, nI_1]
    exact ⟨_, ⟨Gz, rfl, g2, g3⟩, rfl⟩
  · rintro a ⟨H, rfl, e1, e2⟩ rec
    unfold q_X11_perform_7
    show ∃ Gz, (if nI K < nI (K + 1) then _ else _) = some (Gz, L, O) ∧ _
    rw [if_pos (nI_lt (by omega) (by omega))]
    exact ⟨H, rfl, e1⟩
theorem way_rng (x : Int32) : (∃ w, w < 7 ∧ x = nI w ∧ f_X11_outside x 7 = 0 ∧ f_X12_isWay x = 1) ∨ (f_X11_outside x 7 = 1 ∧ f_X12_isWay x = 0) := by
  unfold f_X12_isWay
  rcases rng x 7 6 7 (by decide) rfl (by decide) with ⟨w, hw, e, ho, hi⟩ | ⟨ho, hi, -⟩
  · exact Or.inl ⟨w, hw, e, ho, hi⟩
  · exact Or.inr ⟨ho, hi⟩
theorem OW_rfl {S : Nat → Nat} {O : MemO} : OW S O O := Or.inl rfl
theorem runE {z t : Nat} {G C Gz : Mem} {L L1 : MemL} {O : MemO} {e : Nat} {S : Nat → Nat} {G' B Gz' : Mem} {n k ls lk : Nat} {st : Nat → Sg} {th : Nat → Int32} (hR : RR z t G L O S G') (hC : ∀ b, ¬ (scC b ∨ b = 134 ∨ b = 136) → C b = G b) (hG : CMem C n k ls lk st th Gz) (hB : ∀ b, b ≠ 0 → ¬ scR b → B b = G' b) (hB0 : ∀ j, ¬ (36 ≤ j ∧ j ≤ 40) → B 0 j = G' 0 j) (hG' : ∀ b, ¬ (scR b ∨ b = 24 ∨ b = 25) → Gz' b = B b) : RR z t Gz L1 (up2 O 128 12 (some e)) S Gz' := by
  refine hR.run (fun b hb => ?_) (fun b h0 hb => ?_) (fun j hj => ?_) ⟨some e, Or.inr rfl⟩
  · rw [hG.1 b (fun q => hb (Or.inl q)), hC b hb]
  · rw [hG' b hb, hB b h0 (fun q => hb (Or.inl q))]
  · rw [hG' 0 (by unfold scR; omega), hB0 j hj]
theorem bgR_sc {G : Mem} {n b : Nat} (h0 : b ≠ 0) (hb : ¬ scR b) : bgR G n b = G b := bgR_n ⟨h0, by unfold scR at hb; omega⟩
theorem ag_sing : Ag_sing RR := by
  intro z t G L O S G' x1 x2 hR
  have hz := hR.1.1
  unfold f_X11_sing f_X12_sing
  rcases way_rng x1 with ⟨w, hw, rfl, ho, hi⟩ | ⟨ho, hi⟩
  rotate_left
  · exact ⟨G, L, O, G', -2, by rw [ho, if_neg i10], by rw [hi, if_pos rfl], OW_rfl, hR⟩
  obtain ⟨last, l1, l2, l3⟩ := hR.2.2.1.1.2
  have l4 := hR.2.2.1.1.1.trans l3
  have hst : f_X12_isStep G' x2 = f_X12_in x2 0 (nI last - 1) := by unfold f_X12_isStep; rw [l3]
  rw [ho, hi, if_pos rfl, if_neg i10, l4, hst]
  rcases rng x2 (nI last) (nI last - 1) last (by omega) rfl rfl with ⟨K, hK, rfl, ho2, hi2⟩ | ⟨ho2, hi2, -⟩
  rotate_left
  · exact ⟨G, L, O, G', -2, by rw [ho2, if_neg i10], by rw [hi2, if_pos rfl], OW_rfl, hR⟩
  rw [ho2, hi2, if_pos rfl, if_neg i10]
  rcases miss11 hR hw with ⟨m1, m2, m3⟩ | ⟨m1, m2⟩
  rotate_left
  · exact ⟨G, L, O, G', -11, by rw [m1, bndO_e, if_neg i10], by rw [m2, bndO_e, if_neg i10], OW_rfl, hR⟩
  obtain ⟨e, r, ev, pl, C, L1, last', -, -, p3, p4, p5, p6, p7, p8, p9, p10, p11, p12, p13, -⟩ := opCtx hR hw m3
  rw [m1, m2, bndO_e, bndO_e, if_pos rfl, if_pos rfl, p6, bndO_e]
  unfold f_X11_perform
  rw [p5, bndP3_e]
  obtain ⟨Gz, g1, g2⟩ := perf11 (lo := fun k => G' 1 k) (x1 := nI w) p7 (by rw [p12 101 (by unfold scC; omega)]; exact l4) l2 hK (fun k hk => by rw [p12 102 (by unfold scC; omega)]; exact (hR.2.1.1 k hk).1) p10
  rw [g1, bndP3_e]
  -- the reference's loops
  have l2' : ∀ H : Mem, RMem (bgR G' z) z (K + 1) (runS (bgR G' z) ev (nI w) (fun k => G' 1 k) pl z 99 0 (K + 1)) H → iter (q_X12_sing_58 (nI w) (nI K)) fuel (H, 0, 0) = some (H, msk (fun i => (runS (bgR G' z) ev (nI w) (fun k => G' 1 k) pl z 99 0 (K + 1) i).2.2.2) z) := by
    intro H hH
    have h7 : H 0 7 = nI z := by rw [hH.1 0 (by unfold scR; omega)]; exact p8.2.1
    refine iter_fuel (q_X12_sing_58 (nI w) (nI K)) (fun m a => a = (H, msk (fun i => (runS (bgR G' z) ev (nI w) (fun k => G' 1 k) pl z 99 0 (K + 1) i).2.2.2) m, nI m)) (fun q => q = some (H, msk (fun i => (runS (bgR G' z) ev (nI w) (fun k => G' 1 k) pl z 99 0 (K + 1) i).2.2.2) z)) z (by omega) ?_ ?_ rfl
    · rintro m a hm rfl rec
      refine Or.inl ⟨(H, msk (fun i => (runS (bgR G' z) ev (nI w) (fun k => G' 1 k) pl z 99 0 (K + 1) i).2.2.2) (m + 1), nI (m + 1)), rfl, ?_⟩
      unfold q_X12_sing_58
      show (if H 0 7 ≤ nI m then _ else _) = _
      have h21 : H 21 m = b2 (runS (bgR G' z) ev (nI w) (fun k => G' 1 k) pl z 99 0 (K + 1) m).2.2.2 := by
        rcases (hH.2 m hm).2.2.2 with h | h
        · omega
        · exact h.2
      rw [h7, if_neg (nI_ge hm (by omega)), chk_t (inB_n (by omega) (by decide)), nI_clamp (by omega), h21]
      cases hb : (runS (bgR G' z) ev (nI w) (fun k => G' 1 k) pl z 99 0 (K + 1) m).2.2.2 with
      | false =>
        rw [if_pos (show b2 false = 0 from rfl), bnd_e, nI_1, msk_f (b := fun i => (runS (bgR G' z) ev (nI w) (fun k => G' 1 k) pl z 99 0 (K + 1) i).2.2.2) hb]
      | true =>
        rw [if_neg (show ¬ b2 true = 0 by decide), bnd_e, bnd_e, nI_1, msk_t (b := fun i => (runS (bgR G' z) ev (nI w) (fun k => G' 1 k) pl z 99 0 (K + 1) i).2.2.2) hb]
    · rintro a rfl rec
      unfold q_X12_sing_58
      show (if H 0 7 ≤ nI z then _ else _) = _
      rw [h7, if_pos (nI_le (Nat.le_refl _) (by omega))]
  have key : ∃ Gz', iter (q_X12_sing_36 (nI w) (nI K)) fuel (bgR G' z, 0) = some (Gz', msk (fun i => (runS (bgR G' z) ev (nI w) (fun k => G' 1 k) pl z 99 0 (K + 1) i).2.2.2) z) ∧ ∀ b, ¬ scR b → Gz' b = bgR G' z b := by
    refine iter_fuel (q_X12_sing_36 (nI w) (nI K)) (fun k a => ∃ H : Mem, a = (H, nI k) ∧ RMem (bgR G' z) z k (runS (bgR G' z) ev (nI w) (fun k => G' 1 k) pl z 99 0 k) H) (fun q => ∃ Gz', q = some (Gz', msk (fun i => (runS (bgR G' z) ev (nI w) (fun k => G' 1 k) pl z 99 0 (K + 1) i).2.2.2) z) ∧ ∀ b, ¬ scR b → Gz' b = bgR G' z b) (K + 1) (by omega) ?_ ?_ ⟨_, rfl, p11⟩
    · rintro k a hk ⟨H, rfl, e1⟩ rec
      left
      unfold q_X12_sing_36
      show ∃ a', _ ∧ (if nI K < nI k then _ else _) = rec a'
      obtain ⟨G1, h1, h2, -⟩ := go12 (k := k) p8 (by omega) p9 e1
      rw [if_neg (nI_nlt (by omega) (by omega)), h1, bndO_e, bnd_e, nI_1]
      exact ⟨_, ⟨G1, rfl, h2⟩, rfl⟩
    · rintro a ⟨H, rfl, e1⟩ rec
      unfold q_X12_sing_36
      show ∃ Gz', (if nI K < nI (K + 1) then _ else _) = some (Gz', _) ∧ _
      rw [if_pos (nI_lt (by omega) (by omega)), l2' H e1]
      exact ⟨H, rfl, e1.1⟩
  obtain ⟨Gz', k1, k2⟩ := key
  rw [k1]
  refine ⟨Gz, L1, _, Gz', _, rfl, ?_, p13, runE hR (fun b hb => p12 b (fun q => hb (q.elim Or.inl (fun h => Or.inr (Or.inl h))))) g2 (fun b h0 hb => bgR_sc h0 hb) (fun j hj => bgR_0 (by omega)) (fun b hb => k2 b (fun q => hb (Or.inl q)))⟩
  rw [g2.2.2.2.1]
theorem ag_of : Ag_of RR := by
  intro z t G L O S G' x1 x2 x3 hR
  have hz := hR.1.1
  unfold f_X11_of f_X12_of
  rcases way_rng x1 with ⟨w, hw, rfl, ho, hi⟩ | ⟨ho, hi⟩
  rotate_left
  · exact ⟨G, L, O, G', -2, by rw [ho, if_neg i10], by rw [hi, if_pos rfl], OW_rfl, hR⟩
  obtain ⟨last, l1, l2, l3⟩ := hR.2.2.1.1.2
  have l4 := hR.2.2.1.1.1.trans l3
  have hst : f_X12_isStep G' x2 = f_X12_in x2 0 (nI last - 1) := by unfold f_X12_isStep; rw [l3]
  rw [ho, hi, if_pos rfl, if_neg i10, l4, hst]
  rcases rng x2 (nI last) (nI last - 1) last (by omega) rfl rfl with ⟨K, hK, rfl, ho2, hi2⟩ | ⟨ho2, hi2, -⟩
  rotate_left
  · exact ⟨G, L, O, G', -2, by rw [ho2, if_neg i10], by rw [hi2, if_pos rfl], OW_rfl, hR⟩
  rw [ho2, hi2, if_pos rfl, if_neg i10]
  rcases rng x3 4 3 4 (by decide) rfl (by decide) with ⟨v, hv, rfl, ho3, hi3⟩ | ⟨ho3, hi3, -⟩
  rotate_left
  · exact ⟨G, L, O, G', -2, by rw [ho3, if_neg i10], by rw [hi3, if_pos rfl], OW_rfl, hR⟩
  rw [ho3, hi3, if_pos rfl, if_neg i10]
  rcases miss11 hR hw with ⟨m1, m2, m3⟩ | ⟨m1, m2⟩
  rotate_left
  · exact ⟨G, L, O, G', -11, by rw [m1, bndO_e, if_neg i10], by rw [m2, bndO_e, if_neg i10], OW_rfl, hR⟩
  obtain ⟨e, r, ev, pl, C, L1, last', -, -, p3, p4, p5, p6, p7, p8, p9, p10, p11, p12, p13, -⟩ := opCtx hR hw m3
  rw [m1, m2, bndO_e, bndO_e, if_pos rfl, if_pos rfl, p6, bndO_e]
  unfold f_X11_perform
  rw [p5, bndP3_e]
  obtain ⟨Gz, g1, g2⟩ := perf11 (lo := fun k => G' 1 k) (x1 := nI w) p7 (by rw [p12 101 (by unfold scC; omega)]; exact l4) l2 hK (fun k hk => by rw [p12 102 (by unfold scC; omega)]; exact (hR.2.1.1 k hk).1) p10
  obtain ⟨cn, cw, c10, c11, c14, csg, cbar, cle, cme, crl, ckm, cpl, ckm2⟩ := id p7
  rw [g1, bndP3_e, how11 (C := C) (B := bgR G' z) hz hv (by rw [g2.1 134 (by unfold scC; omega)]; exact cme v hv) g2.2.2.2.1, bndO_e]
  have key : ∃ Gz', iter (q_X12_of_46 (nI w) (nI K) (nI v)) fuel (bgR G' z, 0) = some (Gz', nI (cntV (bgR G' z) z (runS (bgR G' z) ev (nI w) (fun k => G' 1 k) pl z 99 0 (K + 1)) v)) ∧ ∀ b, ¬ scR b → Gz' b = bgR G' z b := by
    refine iter_fuel (q_X12_of_46 (nI w) (nI K) (nI v)) (fun k a => ∃ H : Mem, a = (H, nI k) ∧ RMem (bgR G' z) z k (runS (bgR G' z) ev (nI w) (fun k => G' 1 k) pl z 99 0 k) H) (fun q => ∃ Gz', q = some (Gz', nI (cntV (bgR G' z) z (runS (bgR G' z) ev (nI w) (fun k => G' 1 k) pl z 99 0 (K + 1)) v)) ∧ ∀ b, ¬ scR b → Gz' b = bgR G' z b) (K + 1) (by omega) ?_ ?_ ⟨_, rfl, p11⟩
    · rintro k a hk ⟨H, rfl, e1⟩ rec
      left
      unfold q_X12_of_46
      show ∃ a', _ ∧ (if nI K < nI k then _ else _) = rec a'
      obtain ⟨G1, h1, h2, -⟩ := go12 (k := k) p8 (by omega) p9 e1
      rw [if_neg (nI_nlt (by omega) (by omega)), h1, bndO_e, bnd_e, nI_1]
      exact ⟨_, ⟨G1, rfl, h2⟩, rfl⟩
    · rintro a ⟨H, rfl, e1⟩ rec
      unfold q_X12_of_46
      show ∃ Gz', (if nI K < nI (K + 1) then _ else _) = some (Gz', _) ∧ _
      rw [if_pos (nI_lt (by omega) (by omega)), ofV12 hz p8.2.1 (by omega) e1, bndO_e]
      exact ⟨H, rfl, e1.1⟩
  obtain ⟨Gz', k1, k2⟩ := key
  rw [k1]
  exact ⟨Gz, L1, _, Gz', _, rfl, rfl, p13, runE hR (fun b hb => p12 b (fun q => hb (q.elim Or.inl (fun h => Or.inr (Or.inl h))))) g2 (fun b h0 hb => bgR_sc h0 hb) (fun j hj => bgR_0 (by omega)) (fun b hb => k2 b (fun q => hb (Or.inl q)))⟩
theorem ag_breaths : Ag_breaths RR := by
  intro z t G L O S G' x1 x2 hR
  have hz := hR.1.1
  unfold f_X11_breaths f_X12_breaths
  rcases way_rng x1 with ⟨w, hw, rfl, ho, hi⟩ | ⟨ho, hi⟩
  rotate_left
  · exact ⟨G, L, O, G', -2, by rw [ho, if_neg i10], by rw [hi, if_pos rfl], OW_rfl, hR⟩
  rw [ho, hi, if_pos rfl, if_neg i10]
  have main : (x2 = -1 ∨ ∃ i, i < z ∧ x2 = nI i) → ∃ (G1 : Mem) (L1 : MemL) (O1 : MemO) (G1' : Mem) (v : Int32), j_X11_breaths_28 S (nI w) x2 G L O = some (G1, L1, O1, v) ∧ j_X12_breaths_24 (nI w) x2 G' = some (G1', v) ∧ OW S O O1 ∧ RR z t G1 L1 O1 S G1' := by
    intro hx2
    unfold j_X11_breaths_28 j_X12_breaths_24
    rcases miss11 hR hw with ⟨m1, m2, m3⟩ | ⟨m1, m2⟩
    rotate_left
    · exact ⟨G, L, O, G', -11, by rw [m1, bndO_e, if_neg i10], by rw [m2, bndO_e, if_neg i10], OW_rfl, hR⟩
    obtain ⟨e, r, ev, pl, C, L1, last, l1, l2, l4, l3, p5, p6, p7, p8, p9, p10, p11, p12, p13, -⟩ := opCtx hR hw m3
    obtain ⟨K, rfl⟩ : ∃ K, last = K + 1 := ⟨last - 1, by omega⟩
    rw [m1, m2, bndO_e, bndO_e, if_pos rfl, if_pos rfl, p6, bndO_e, l4, nI_pred]
    unfold f_X11_perform
    rw [p5, bndP3_e]
    obtain ⟨Gz, g1, g2⟩ := perf11 (lo := fun k => G' 1 k) (x1 := nI w) (K := K) p7 (by rw [p12 101 (by unfold scC; omega)]; exact l4) l2 (by omega) (fun k hk => by rw [p12 102 (by unfold scC; omega)]; exact (hR.2.1.1 k hk).1) p10
    rw [g1, bndP3_e]
    obtain ⟨rn, hrn⟩ : ∃ x, x = runS (bgR G' z) ev (nI w) (fun k => G' 1 k) pl z 99 0 (K + 1) := ⟨_, rfl⟩
    rw [← hrn] at g2
    have h11 : Gz 128 11 = nI z := by rw [g2.2.1 11 (by decide)]; exact p7.2.2.2.1
    have r132 : ∀ i, i < z → Gz 132 i = (rn i).2.2.1 := fun i hi => (g2.2.2.1 i hi (by omega)).2.2
    -- the reference's sum
    obtain ⟨f, hf⟩ : ∃ f : Nat → Int32, f = fun i => if x2 = -1 then (rn i).2.2.1 else if nI i = x2 then (rn i).2.2.1 else 0 := ⟨_, rfl⟩
    have l66 : ∀ H : Mem, RMem (bgR G' z) z (K + 1) rn H → iter (q_X12_breaths_66 (nI w) x2) fuel (H, 0, 0) = some (H, sumR f z) := by
      intro H hH
      have h7 : H 0 7 = nI z := by rw [hH.1 0 (by unfold scR; omega)]; exact p8.2.1
      refine iter_fuel (q_X12_breaths_66 (nI w) x2) (fun m a => a = (H, sumR f m, nI m)) (fun q => q = some (H, sumR f z)) z (by omega) ?_ ?_ rfl
      · rintro m a hm rfl rec
        refine Or.inl ⟨(H, sumR f (m + 1), nI (m + 1)), rfl, ?_⟩
        unfold q_X12_breaths_66
        show (if H 0 7 ≤ nI m then _ else _) = _
        have hb : inB (nI m) 10 = true := inB_n (by omega) (by decide)
        have z0 : ∀ x : Int32, x + 0 = x := Int32.add_zero
        rw [h7, if_neg (nI_ge hm (by omega)), chk_t hb, nI_clamp (by omega), (hH.2 m hm).2.2.1]
        show _ = rec (H, sumR f m + f m, nI (m + 1))
        rw [hf]
        show _ = rec (H, _ + (if x2 = -1 then (rn m).2.2.1 else if nI m = x2 then (rn m).2.2.1 else 0), nI (m + 1))
        by_cases h1 : x2 = -1
        · rw [if_pos h1, if_pos h1, bnd_e, bnd_e, nI_1]
        · rw [if_neg h1, if_neg h1]
          by_cases h2 : nI m = x2
          · rw [if_pos h2, if_pos h2, bnd_e, bnd_e, nI_1]
          · rw [if_neg h2, if_neg h2, bnd_e, nI_1, z0]
      · rintro a rfl rec
        unfold q_X12_breaths_66
        show (if H 0 7 ≤ nI z then _ else _) = _
        rw [h7, if_pos (nI_le (Nat.le_refl _) (by omega))]
    have key : ∃ Gz', iter (q_X12_breaths_41 (nI w) x2) fuel (bgR G' z, 0) = some (Gz', sumR f z) ∧ ∀ b, ¬ scR b → Gz' b = bgR G' z b := by
      refine iter_fuel (q_X12_breaths_41 (nI w) x2) (fun k a => ∃ H : Mem, a = (H, nI k) ∧ RMem (bgR G' z) z k (runS (bgR G' z) ev (nI w) (fun k => G' 1 k) pl z 99 0 k) H) (fun q => ∃ Gz', q = some (Gz', sumR f z) ∧ ∀ b, ¬ scR b → Gz' b = bgR G' z b) (K + 1) (by omega) ?_ ?_ ⟨_, rfl, p11⟩
      · rintro k a hk ⟨H, rfl, e1⟩ rec
        left
        unfold q_X12_breaths_41
        show ∃ a', _ ∧ (if H 0 1 ≤ nI k then _ else _) = rec a'
        obtain ⟨G1, h1, h2, -⟩ := go12 (k := k) p8 (by omega) p9 e1
        rw [e1.1 0 (by unfold scR; omega), bgR_0 (by decide), l3, if_neg (nI_ge hk (by omega)), h1, bndO_e, bnd_e, nI_1]
        exact ⟨_, ⟨G1, rfl, h2⟩, rfl⟩
      · rintro a ⟨H, rfl, e1⟩ rec
        unfold q_X12_breaths_41
        show ∃ Gz', (if H 0 1 ≤ nI (K + 1) then _ else _) = some (Gz', _) ∧ _
        rw [e1.1 0 (by unfold scR; omega), bgR_0 (by decide), l3, if_pos (nI_le (Nat.le_refl _) (by omega)), l66 H (by rw [hrn]; exact e1)]
        exact ⟨H, rfl, e1.1⟩
    obtain ⟨Gz', k1, k2⟩ := key
    rw [k1]
    have hend := runE (L1 := L1) hR (fun b hb => p12 b (fun q => hb (q.elim Or.inl (fun h => Or.inr (Or.inl h))))) g2 (fun b h0 hb => bgR_sc h0 hb) (fun j hj => bgR_0 (by omega)) (Gz' := Gz') (e := e) (fun b hb => k2 b (fun q => hb (Or.inl q)))
    rcases hx2 with h1 | ⟨i, hi, rfl⟩
    · rw [if_pos h1]
      unfold f_X1_allBreaths
      rw [h11, sum11 Gz 132 10 z hz (by decide), bndO_e, bndO_e]
      refine ⟨Gz, L1, _, Gz', _, rfl, ?_, p13, hend⟩
      rw [sumR_congr (f := f) (g := Gz 132) (fun j hj => by rw [r132 j hj, hf]; show (if x2 = -1 then _ else _) = _; rw [if_pos h1])]
    · rw [if_neg (nIm1 (by omega)), chk_t (inB_n (by omega) (by decide)), nI_clamp (by omega)]
      refine ⟨Gz, L1, _, Gz', _, rfl, ?_, p13, hend⟩
      have hsum : ∀ m, m ≤ z → sumR f m = if i < m then (rn i).2.2.1 else 0 := by
        intro m
        induction m with
        | zero => intro _; rw [if_neg (by omega)]; rfl
        | succ m ih =>
          intro hm
          show sumR f m + f m = _
          rw [ih (by omega), hf]
          show _ + (if nI i = -1 then (rn m).2.2.1 else if nI m = nI i then (rn m).2.2.1 else 0) = _
          rw [if_neg (nIm1 (by omega))]
          by_cases hmi : m = i
          · subst hmi
            rw [if_neg (by omega), if_pos rfl, if_pos (by omega)]
            exact Int32.zero_add _
          · rw [if_neg (show ¬ nI m = nI i from fun q => hmi ((nI_eq (by omega) (by omega)).mp q)), Int32.add_zero]
            by_cases him : i < m
            · rw [if_pos him, if_pos (by omega)]
            · rw [if_neg him, if_neg (by omega)]
      rw [hsum z (Nat.le_refl _), if_pos hi, r132 i hi]
  by_cases h1 : x2 = -1
  · rw [if_pos h1, if_pos h1]
    exact main (Or.inl h1)
  · rw [if_neg h1, if_neg h1]
    rcases sg_rng hR.1 x2 with ⟨i, hi, hi10, rfl, ho2, his, -⟩ | ⟨ho2, his⟩
    · rw [ho2, his, if_pos rfl, if_neg i10]
      exact main (Or.inr ⟨i, hi, rfl⟩)
    · exact ⟨G, L, O, G', -2, by rw [ho2, if_neg i10], by rw [his, if_pos rfl], OW_rfl, hR⟩
