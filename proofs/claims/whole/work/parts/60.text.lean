-- text: the class and the reference agree
theorem bad_txt {z t : Nat} {G Gf : Mem} {L : MemL} {O : MemO} {S : Nat → Nat} {G' Gf' : Mem} (hR : RR z t G L O S G') (h1 : FrT (2000 + 4 * t) G Gf) (h2 : FrU G' Gf') : RR z t (up2 Gf 114 2 0) L O S (up2 Gf' 0 14 0) := by
  obtain ⟨hsg, hpc, hla, hke, htx, htp, hsh, hco⟩ := hR
  have c1 : ∀ b j, ¬ (b = 114 ∧ 2 ≤ j ∧ j ≤ 7) → b ≠ 116 → b ≠ 2000 + 4 * t + 2 → up2 Gf 114 2 0 b j = G b j := fun b j x y w => by rw [up2_o (by omega), h1 b j (by omega) y w]
  have c2 : ∀ b j, ¬ (b = 0 ∧ (j = 14 ∨ (20 ≤ j ∧ j ≤ 26))) → ¬ ((b = 11 ∨ b = 12) ∧ 1020 ≤ j) → ¬ (b = 13 ∧ 18 ≤ j) → up2 Gf' 0 14 0 b j = G' b j := fun b j x y w => by rw [up2_o (by omega), h2 b j (by omega) y w]
  refine ⟨hsg.cg (fun b j h => c1 b j (by omega) (by omega) (by omega)) (fun b j h => c2 b j (by omega) (by omega) (by omega)), hpc.cg (fun b j h => c1 b j (by omega) (by omega) (by omega)) (fun b j h => c2 b j (by omega) (by omega) (by omega)), hla.cg (fun b j h => c1 b j (by omega) (by omega) (by omega)) (fun b j h => c2 b j (by omega) (by omega) (by omega)), hke.cg (fun b j h => c1 b j (by omega) (by omega) (by omega)) (fun b j h => c2 b j (by omega) (by omega) (by omega)), ?_, ⟨0, by decide, up2_aa _ _ _ _, up2_aa _ _ _ _, fun j hj => by omega⟩, hsh.cg (fun b j h => c1 b j (by omega) (by omega) (by omega)) (fun b j h => c2 b j (by omega) (by omega) (by omega)), hco.cg (fun b j h => c2 b j (by omega) (by omega) (by omega))⟩
  obtain ⟨t1, t6, q3, q4, q5⟩ := htx
  refine ⟨t1, t6, by rw [c1 _ _ (by omega) (by omega) (by omega)]; exact q3, by rw [c2 _ _ (by omega) (by omega) (by omega)]; exact q4, fun r hr => ?_⟩
  obtain ⟨p1, p2, ac, wi, en, p3, ⟨d1, d2, d3⟩, p5⟩ := q5 r hr
  refine ⟨p1, p2, ac, wi, en, p3, ⟨d1, fun k hk => by rw [c1 _ _ (by omega) (by omega) (by omega)]; exact d2 k hk, fun k hk => by rw [c1 _ _ (by omega) (by omega) (by omega)]; exact d3 k hk⟩, ?_⟩
  have hen := p3.2.2.1
  unfold txR at p5 ⊢
  split at p5
  · rename_i h0; rw [if_pos h0]; exact p5
  · rename_i h0; rw [if_neg h0]
    exact ⟨fun k hk => by rw [c2 _ _ (by omega) (by omega) (by omega), c2 _ _ (by omega) (by omega) (by omega)]; exact p5.1 k hk, fun k hk => by rw [c2 _ _ (by omega) (by omega) (by omega)]; exact p5.2 k hk⟩
theorem ag_text : Ag_text RR := by
  intro K z t G L O S G' hCI hR
  obtain ⟨hsg, hpc, hla, hke, htx, htp, hsh, hco⟩ := id hR
  obtain ⟨t1, t6, q3, q4, q5⟩ := id htx
  by_cases h6 : t = 6
  · refine ⟨0, S, G, O, 0, G', -4, ?_, ?_, Or.inr ⟨rfl, rfl⟩, by rw [if_neg (by decide)]; exact hCI, hR⟩
    · unfold f_X11_text
      rw [q3, h6, if_neg (by decide)]
    · unfold f_X12_text
      rw [q4, h6, if_pos (by decide)]
  have ht : t < 6 := by omega
  obtain ⟨sz, s1, s2, s3, s4⟩ := htp
  have hT : Tp (fun j => G' 10 j) sz G G' := ⟨s1, s2, s3, fun j hj => ⟨(s4 j hj).1, rfl, (s4 j hj).2⟩, hco.1, hco.2⟩
  have h7 : G 100 7 < 6 := by rw [q3]; exact nI_lt (b := 6) ht (by decide)
  rcases comp (tx := 2000 + 4 * t) hT (by omega) (by rw [q4]; exact fun q => h6 ((nI_eq (b := 6) (by omega) (by decide)).mp q)) with ⟨Gc, Gm, e0, e1, e2, p, a1, a2, a3, a4, a5, a6, a7, a8, a9, a10, a11, a12, a13, a14, a15, a16, a17⟩ | ⟨Gf, Gf', l, p, a1, a2, a3, a4, a5⟩
  rotate_left
  · refine ⟨0, S, _, O, 0, _, _, no11 h7 (a1 0 O) a5.2.1, by rw [a2]; exact no12 (by have := a5.1; omega) a5.2.2.1, Or.inr ⟨rfl, rfl⟩, by rw [if_neg (by decide)]; exact hCI, bad_txt hR a3 a4⟩
  have hz := a5.sz
  have htk := a5.2.2.2.2.2.2.2.2.2
  by_cases h9 : Gc 114 5 = 9
  rotate_left
  · obtain ⟨Gz', f1, f2, f3⟩ := fault a5 (by omega)
    have hn4 : ¬ Gm 0 25 = 4 := by
      rcases htk with ⟨k, k1, k2, k3, k4⟩ | ⟨k, k1, k2, k3, k4, k5⟩ | ⟨k, k1, k2, k3, k4, k5⟩ | ⟨k1, k2, k3⟩ | ⟨k1, k2⟩ | ⟨k1, k2⟩
      · rw [k3]; decide
      · rw [k4]; decide
      · rw [k4]; decide
      · rw [k2]; decide
      · exact absurd k1 h9
      · rw [k2]; decide
    have hr : j_X12_text_61 Gm = j_X12_text_61 Gz' := by
      have hge := Bad.ge f3 s1
      unfold j_X12_text_61
      rw [a5.2.1, if_neg (by decide), if_neg hn4, f1, bndO_e, if_pos hge]
    refine ⟨0, S, _, O, 0, _, _, no11 h7 (by rw [a1]; unfold endC; rw [if_neg h9]) f3.2.1, by rw [a2, hr]; exact no12 (by omega) f3.2.2.1, Or.inr ⟨rfl, rfl⟩, by rw [if_neg (by decide)]; exact hCI, bad_txt hR a3 (fun b j x y w => (f2 b j x y).trans (a4 b j x y w))⟩
  have h25 : Gm 0 25 = 4 := by
    rcases htk with ⟨k, k1, k2, k3, k4⟩ | ⟨k, k1, k2, k3, k4, k5⟩ | ⟨k, k1, k2, k3, k4, k5⟩ | ⟨k1, k2, k3⟩ | ⟨k1, k2⟩ | ⟨k1, k2⟩
    · rw [h9] at k2
      have := (nI_eq (a := 9) (b := k) (by decide) (by omega)).mp k2
      omega
    · rw [h9] at k2; exact absurd k2 (by decide)
    · rw [h9] at k2; exact absurd k2 (by decide)
    · rw [h9] at k1; exact absurd k1 (by decide)
    · exact k2
    · rw [h9] at k1; exact absurd k1 (by decide)
  obtain ⟨Gz', y1, y2, y3, y4, y5, y6, y7, y8, y9⟩ := yes12 (t := t) ht (by omega) a5.2.1 h25 a5.2.2.2.2.1 (by rw [a4 _ _ (by omega) (by omega) (by omega)]; exact q4)
  obtain ⟨G1, O1, x1, x2, x2', x3, x5, x6, x7, x8⟩ := yes11 (S := S) (O := O) ht (e2 := e2) (by omega) q3 a1 h9 a5.2.2.2.1 (by rw [a3 _ _ (by omega) (by omega) (by omega)]; exact q3)
  refine ⟨e2, _, G1, O1, 1, Gz', _, x1, by rw [a2]; exact y1, Or.inl ⟨rfl, rfl⟩, by rw [if_pos rfl]; exact CI_txt hCI (fun j i a ha => (x8 j i a ha).imp (hCI.2.2.1 j i a) id), ?_⟩
  have c1 : ∀ b j, ¬ (2000 + 4 * t ≤ b ∧ b ≤ 2000 + 4 * t + 3) → ¬ (b = 100 ∧ j = 7) → ¬ (b = 114 ∧ 2 ≤ j ∧ j ≤ 7) → b ≠ 116 → G1 b j = G b j := fun b j x y w u => by rw [x2 b j (by omega) (by omega) (by omega) y (by omega), a3 b j (by omega) u (by omega)]
  have c2 : ∀ b j, b ≠ 11 → b ≠ 12 → b ≠ 13 → ¬ (b = 0 ∧ (j = 14 ∨ j = 15 ∨ (20 ≤ j ∧ j ≤ 26))) → Gz' b j = G' b j := by
    intro b j x y w u
    by_cases h0 : b = 0
    · rw [h0, y3 j (by omega) (by omega), a4 0 j (by omega) (by omega) (by omega)]
    · rw [y2 b j h0 x y w, a4 b j (by omega) (by omega) (by omega)]
  have o1 : ∀ b j, b ≠ 2000 + 4 * t → ¬ (b = 117 ∧ j = t) → O1 b j = O b j := x6
  have hsg' := hsg.cg (G1 := G1) (G1' := Gz') (fun b j h => c1 b j (by omega) (by omega) (by omega) (by omega)) (fun b j h => c2 b j (by omega) (by omega) (by omega) (by omega))
  have hsh' := hsh.cg (G1 := G1) (G1' := Gz') (fun b j h => c1 b j (by omega) (by omega) (by omega) (by omega)) (fun b j h => c2 b j (by omega) (by omega) (by omega) (by omega))
  have hz10 := hsg.1
  have hla' := hla.cg (G1 := G1) (G1' := Gz') (fun b j h => c1 b j (by omega) (by omega) (by omega) (by omega)) (fun b j h => c2 b j (by omega) (by omega) (by omega) (by omega))
  have hke' := hke.cg (G1 := G1) (G1' := Gz') (fun b j h => c1 b j (by omega) (by omega) (by omega) (by omega)) (fun b j h => c2 b j (by omega) (by omega) (by omega) (by omega))
  have up : ∀ {x : Int32}, rgB x t → rgB x (t + 1) := fun ⟨k, k1, k2⟩ => ⟨k, by omega, k2⟩
  refine ⟨⟨hsg'.1, hsg'.2.1, hsg'.2.2.1, fun i hi => ⟨by rw [o1 _ _ (by omega) (by omega)]; exact (hsg'.2.2.2 i hi).1, by rw [stx_n2 (by omega) (by omega)]; exact (hsg'.2.2.2 i hi).2.1, (hsg'.2.2.2 i hi).2.2⟩⟩, hpc.cg (fun b j h => c1 b j (by omega) (by omega) (by omega) (by omega)) (fun b j h => c2 b j (by omega) (by omega) (by omega) (by omega)), ⟨hla'.1, hla'.2.1, hla'.2.2.1, up hla'.2.2.2⟩, ?_, ?_, ⟨0, by decide, x2', y4, fun j hj => by omega⟩, hsh'.os (fun j => o1 _ _ (by omega) (by omega)), hco.cg (fun b j h => c2 b j (by omega) (by omega) (by omega) (by omega))⟩
  · rcases hke' with h | ⟨ks, k1, k2, k3, k4, k5, k6, k7, k8, k9, k10⟩
    · exact Or.inl h
    · exact Or.inr ⟨ks, k1, k2, k3, k4, k5, k6, k7, k8, k9, up k10⟩
  · refine ⟨by omega, by omega, x3, y5, fun r hr => ?_⟩
    by_cases hrt : r = t
    · subst hrt
      refine ⟨x7, by unfold stx; rw [if_pos rfl], fun k => Gm 11 (1020 + k), fun k => Gm 12 (1020 + k), fun j => if j = 0 then e0 else if j = 1 then e1 else e2, ⟨?_, ?_, ?_, ?_, a9, a10, a11⟩, ⟨?_, fun k hk => ?_, fun j hj => ?_⟩, ?_⟩
      · show e0 ≤ e1; omega
      · show e1 ≤ e2; omega
      · show e2 ≤ 160; omega
      · intro k hk; exact (a5.2.2.2.2.2.1 k hk).2
      · unfold stx
        rw [if_neg (by omega), if_pos rfl]
        rfl
      · rw [x5 k hk]; exact (a5.2.2.2.2.2.1 k hk).1
      · rw [x2 _ _ (by omega) (by omega) (by omega) (by omega) (by omega)]
        rcases (show j = 0 ∨ j = 1 ∨ j = 2 by omega) with rfl | rfl | rfl
        · exact a12
        · exact a13
        · exact a14
      · unfold txR
        rw [if_neg (by omega)]
        refine ⟨fun k hk => y6 k hk, fun j hj => ?_⟩
        rw [y7 j hj]
        rcases (show j = 0 ∨ j = 1 ∨ j = 2 by omega) with rfl | rfl | rfl
        · exact a15
        · exact a16
        · exact a17
    · obtain ⟨p1, p2, ac, wi, en, p3, ⟨d1, d2, d3⟩, p5⟩ := q5 r (by omega)
      have hen := p3.2.2.1
      have hen01 := p3.1
      refine ⟨by rw [o1 _ _ (by omega) (by omega)]; exact p1, by rw [stx_n2 (by omega) (by omega)]; exact p2, ac, wi, en, p3, ⟨by rw [stx_n2 (by omega) (by omega)]; exact d1, fun k hk => by rw [c1 _ _ (by omega) (by omega) (by omega) (by omega)]; exact d2 k hk, fun k hk => by rw [c1 _ _ (by omega) (by omega) (by omega) (by omega)]; exact d3 k hk⟩, ?_⟩
      unfold txR at p5 ⊢
      split at p5
      · rename_i h0; rw [if_pos h0]; exact p5
      · rename_i h0; rw [if_neg h0]
        refine ⟨fun k hk => ?_, fun k hk => ?_⟩
        · rw [(y8 _ (by omega)).1, (y8 _ (by omega)).2, a4 _ _ (by omega) (by omega) (by omega), a4 _ _ (by omega) (by omega) (by omega)]
          exact p5.1 k hk
        · rw [y9 _ (by omega), a4 _ _ (by omega) (by omega) (by omega)]
          exact p5.2 k hk
