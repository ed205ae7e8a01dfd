-- one of a text's three rules
noncomputable def clR (O : MemO) (r : Int32) (K : Mem → Option (Mem × MemO × Nat)) (G : Mem) : Option (Mem × MemO × Nat) := bndP (f_X5_pass G r) (fun G7 v8 => (if v8 = 0 then some (G7, O, 0) else bndP (gR 60 0 G7 0) (fun G11 v12 => (if v12 = 0 then some (G11, O, 0) else bndP (f_X5_pass G11 59) (fun G15 v16 => (if v16 = 0 then some (G15, O, 0) else K G15))))))
theorem rule_ok {T : Nat → Int32} {sz l p r : Nat} {G G' : Mem} (hr : r < 3) (h : Ok T sz l p 0 G G') (hlp : l ≤ p) : (∃ (Gz Gm' : Mem) (l2 p2 : Nat), (∀ O K, clR O (nI r) K G = K Gz) ∧ f_X12_rule G' (nI r) = some (up2 Gm' 13 (18 + r) (nI l2)) ∧ FrC G Gz ∧ FrR G' Gm' ∧ l < l2 ∧ l2 < p2 ∧ Ok T sz l2 p2 0 Gz Gm' ∧ Kp l G' Gm' ∧ hts (acR Gm') 32 (l2 - l) l 0 = some 1) ∨ (∃ (Gz Gz' : Mem) (l2 p2 : Nat), (∀ O K, clR O (nI r) K G = some (Gz, O, 0)) ∧ f_X12_rule G' (nI r) = some Gz' ∧ FrC G Gz ∧ FrR G' Gz' ∧ l2 ≤ p2 ∧ Bad sz l2 p2 Gz Gz') := by
  have h21 := h.2.1
  have htk := h.2.2.2.2.2.2.2.2.2
  have hK := isK (m := r) (by omega) h21 htk
  have e10 : (10 : Int32) + nI r = nI (10 + r) := by rw [show (10 : Int32) = nI 10 from rfl, nI_add]
  have e18 : (18 : Int32) + nI r = nI (18 + r) := by rw [show (18 : Int32) = nI 18 from rfl, nI_add]
  unfold f_X12_rule
  rw [e10, e18]
  by_cases hk : G 114 5 = nI r
  rotate_left
  · right
    obtain ⟨Gz', f1, f2, f3⟩ := fault h hlp
    rw [hK.2 hk, if_pos rfl, f1, bndO_e]
    refine ⟨G, Gz', l, p, fun O K => ?_, rfl, FrC.rfl', f2, hlp, f3⟩
    unfold clR f_X5_pass
    rw [if_neg hk, bndP_e, if_pos rfl]
  rw [hK.1 hk, if_neg i10']
  have hn9 : ¬ G 114 5 = 9 := fun q => by
    rw [hk] at q
    have := (nI_eq (a := r) (b := 9) (by omega) (by decide)).mp q
    omega
  obtain ⟨G1, G1', p1, a1, a2, a3, a4, a5, a6, a7, a8, a9⟩ := adv_ok h hn9
  obtain ⟨G2, G2', v, c1, c2, c3, c4, c5⟩ := ct_all (T := T) (sz := sz) 60 0 0 (by decide) (by decide) (by decide) l p1 G1 G1' a9 (by omega)
  have c1 : gR 60 0 G1 0 = some (G2, v) := c1
  have c2 : gM 60 0 G1' = some G2' := c2
  rw [a2, bndO_e, c2, bndO_e]
  have cl : ∀ (O : MemO) (K : Mem → Option (Mem × MemO × Nat)), clR O (nI r) K G = (if v = 0 then some (G2, O, 0) else bndP (f_X5_pass G2 59) (fun G15 v16 => (if v16 = 0 then some (G15, O, 0) else K G15))) := by
    intro O K
    unfold clR
    rw [show f_X5_pass G (nI r) = some (G1, 1) by unfold f_X5_pass; rw [if_pos hk, a1, bndO_e], bndP_e, if_neg i10', c1, bndP_e]
  rcases c5 with ⟨rfl, l2, p2, d1, d2, d3, d4, d5, d6⟩ | ⟨rfl, l2, p2, d1, d2, d3⟩
  rotate_left
  · right
    have hge := Bad.ge d3 h.sz.1
    rw [if_pos (noK hge).2]
    unfold f_X12_faulty
    rw [if_pos hge, bndO_e]
    exact ⟨G2, G2', l2, p2, fun O K => by rw [cl, if_pos rfl], rfl, a3.tr c3, a4.tr c4, by omega, d3⟩
  have s59 := isS (c := 59) (by decide) d4.2.1 d4.2.2.2.2.2.2.2.2.2
  by_cases h59 : G2 114 5 = 59
  rotate_left
  · right
    obtain ⟨G3', f1, f2, f3⟩ := fault d4 (by omega)
    rw [s59.2 h59, if_pos rfl, f1, bndO_e]
    refine ⟨G2, G3', l2, p2, fun O K => ?_, rfl, a3.tr c3, (a4.tr c4).tr f2, by omega, f3⟩
    rw [cl, if_neg i10', show f_X5_pass G2 59 = some (G2, 0) by unfold f_X5_pass; rw [if_neg h59], bndP_e, if_pos rfl]
  · left
    obtain ⟨G3, G3', p3, b1, b2, b3, b4, b5, b6, b7, b8, b9⟩ := adv_ok d4 (by rw [h59]; decide)
    rw [(s59.1 h59).1, if_neg i10', b2, bndO_e, chk_t (inB_n (by omega) (by decide)), bnd_e, nI_clamp (by omega), b9.2.2.2.2.1]
    refine ⟨G3, G3', l2, p3, fun O K => ?_, rfl, (a3.tr c3).tr b3, (a4.tr c4).tr b4, d1, by omega, b9, ((a5 l).tr (Nat.le_refl _) d5).tr (Nat.le_refl _) (b5 l), ?_⟩
    · rw [cl, if_neg i10', show f_X5_pass G2 59 = some (G3, 1) by unfold f_X5_pass; rw [if_pos h59, b1, bndO_e], bndP_e, if_neg i10']
    · rw [b6]
      exact d6 32 0 (by decide)
