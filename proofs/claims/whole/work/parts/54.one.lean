-- the smallest piece; then all pieces at every depth
theorem leaf {T : Nat → Int32} {sz l p o H : Nat} {G G' : Mem} (hH : 1 ≤ H) (h : Ok T sz l p o G G') (hlp : l ≤ p) {x1 x2 a w : Int32} (hn : ¬ G 114 5 = 9) (he : x1 + 64 * x2 = enc a w) (hs : okStep a w) (ha : a = 1 ∨ a = 2) : ∃ (Gz Gz' : Mem) (v : Int32), bndP (f_X5_emit G x1 x2) (fun G2 _ => bndO (f_X5_advance G2) (fun G5 => some (G5, (1 : Int32)))) = some (Gz, v) ∧ bndO (f_X12_addStep G' a w) (fun G34 => bndO (f_X12_next G34) (fun G36 => some G36)) = some Gz' ∧ FrC G Gz ∧ FrR G' Gz' ∧ Res T sz o H l p G' Gz Gz' v := by
  have hz := h.sz
  have hps := hz.2.2 hn
  obtain ⟨G3, G3', e1, e2, e3, e4, e5, e6, e7, e8⟩ := emit_ok h (by omega) he hs
  obtain ⟨G4, G4', p2, a1, a2, a3, a4, a5, a6, a7, a8, a9⟩ := adv_ok e7 (by rw [e8]; exact hn)
  rw [e1, e2, bndP_e, bndO_e, a1, a2, bndO_e, bndO_e]
  refine ⟨G4, G4', 1, rfl, rfl, e3.tr a3, e4.tr a4, Or.inl ⟨rfl, l + 1, p2, by omega, a7, by omega, a9, e5.tr (Nat.le_refl _) (a5 l), fun M h hM => ?_⟩⟩
  rw [show l + 1 - l = 1 by omega, a6]
  show (if acR G3' l = 1 ∨ acR G3' l = 2 then _ else _) = _
  rw [e6, if_pos ha, if_pos (by omega)]
  rfl
theorem ct_one {T : Nat → Int32} {sz o H H0 H5 : Nat} {rc : Nat → Mem → Int32 → Option (Mem × Int32)} {rr : Nat → Mem → Option Mem} (ho : o ≤ 5) (hF0 : o < 5 → Ct T sz (o + 1) H0 (fun G => rc 0 G (nI o + 1)) (rr 0)) (hF5 : o < 5 → Ct T sz (o + 1) H5 (fun G => rc 5 G (nI o + 1)) (rr 5)) (hH : 1 ≤ H ∧ H0 ≤ H ∧ H5 ≤ H) : Ct T sz o H (fun G => f_X5_one rc G (nI o)) (fun G => f_X12_one rr G) := by
  intro l p G G' h hlp
  have h21 := h.2.1
  have htk := h.2.2.2.2.2.2.2.2.2
  have hz := h.sz
  show ∃ Gz Gz' v, f_X5_one rc G (nI o) = _ ∧ f_X12_one rr G' = _ ∧ _
  have refJ : (¬ G' 0 25 = 2) → (G' 0 25 = 1 → 6 ≤ G' 0 26) → f_X12_one rr G' = j_X12_one_65 rr G' := by
    intro q1 q2
    unfold f_X12_one
    rw [h21, if_pos (by decide), if_neg q1]
    by_cases q3 : G' 0 25 = 1
    · rw [if_pos q3, if_pos (q2 q3)]
    · rw [if_neg q3]
  have s45 := isS (c := 45) (by decide) h21 htk
  have s40 := isS (c := 40) (by decide) h21 htk
  -- nothing that may stand here
  have non : (¬ G 114 5 = 7) → (¬ G 114 5 = 6) → (¬ G 114 5 = 45) → (¬ G 114 5 = 40) → f_X12_one rr G' = j_X12_one_65 rr G' → ∃ Gz Gz' v, f_X5_one rc G (nI o) = some (Gz, v) ∧ f_X12_one rr G' = some Gz' ∧ FrC G Gz ∧ FrR G' Gz' ∧ Res T sz o H l p G' Gz Gz' v := by
    intro q1 q2 q3 q4 q5
    rw [q5]
    unfold f_X5_one j_X12_one_65
    rw [if_neg q1, if_neg q2, if_neg q3, if_neg q4, s45.2 q3, s40.2 q4, if_pos rfl, if_pos rfl]
    obtain ⟨Gz', f1, f2, f3⟩ := fault h hlp
    rw [f1, bndO_e]
    exact ⟨G, Gz', 0, rfl, rfl, FrC.rfl', f2, Or.inr ⟨rfl, l, p, Nat.le_refl _, Nat.le_refl _, f3⟩⟩
  rcases htk with ⟨k, k1, k2, k3, k4⟩ | ⟨k, k1, k2, k3, k4, k5⟩ | ⟨k, k1, k2, k3, k4, k5⟩ | ⟨k1, k2, k3⟩ | ⟨k1, k2⟩ | ⟨k1, k2⟩
  · have ne : ∀ c, 6 ≤ c → c < 100 → ¬ G 114 5 = nI c := fun c c1 c2 q => by
      rw [k2] at q
      have := (nI_eq (by omega) (by omega)).mp q
      omega
    refine non (ne 7 (by decide) (by decide)) (ne 6 (by decide) (by decide)) (ne 45 (by decide) (by decide)) (ne 40 (by decide) (by decide)) (refJ (by rw [k3]; decide) (fun _ => ?_))
    rw [k4]
    exact nI_le (a := 6) (by omega) (by omega)
  · unfold f_X5_one f_X12_one j_X5_one_18
    rw [if_neg (show ¬ G 114 5 = 7 by rw [k2]; decide), if_pos k2, h21, if_pos (by decide), k4, if_neg (by decide), if_pos rfl, k5, if_neg (show ¬ (6 : Int32) ≤ nI k from nI_ge (b := 6) k1 (by decide)), k2, k3]
    exact leaf hH.1 h hlp (by rw [k2]; decide) (a := 2) (w := nI k) rfl (Or.inr (Or.inl ⟨rfl, k, k1, rfl⟩)) (Or.inr rfl)
  · unfold f_X5_one f_X12_one j_X5_one_18
    rw [if_pos k2, h21, if_pos (by decide), k4, if_pos rfl, k5, k2, k3]
    exact leaf hH.1 h hlp (by rw [k2]; decide) (a := 1) (w := nI k) rfl (Or.inl ⟨rfl, k, k1, rfl⟩) (Or.inl rfl)
  · have rj := refJ (by rw [k2]; decide) (fun q => by rw [k2] at q; exact absurd q (by decide))
    have n7 : ¬ G 114 5 = 7 := fun q => by rw [q] at k1; exact absurd k1 (by decide)
    have n6 : ¬ G 114 5 = 6 := fun q => by rw [q] at k1; exact absurd k1 (by decide)
    by_cases h45 : G 114 5 = 45
    · rw [rj]
      unfold f_X5_one j_X12_one_65
      rw [if_neg n7, if_neg n6, if_pos h45, (s45.1 h45).1, if_neg i10']
      exact unary hF5 hH.2.2 h hlp ho (by rw [h45]; decide) (x := 8) (a := 4) (by decide) (Or.inr (Or.inr ⟨by decide, rfl⟩)) (Or.inr rfl)
    by_cases h40 : G 114 5 = 40
    · rw [rj]
      unfold f_X5_one j_X12_one_65
      rw [if_neg n7, if_neg n6, if_neg h45, if_pos h40, s45.2 h45, if_pos rfl, (s40.1 h40).1, if_neg i10']
      rcases enter h hlp ho (by rw [h40]; decide) with ⟨G1, G1', p1, o5, a1, a2, a3, a4, a5, a6, a7⟩ | ⟨G1', a1, a2, a3, a4⟩
      rotate_left
      · rw [a1, a2, bndP_e, bndP_e, if_pos rfl, if_pos rfl]
        exact ⟨G, G1', 0, rfl, rfl, FrC.rfl', a3, Or.inr ⟨rfl, l, p, Nat.le_refl _, Nat.le_refl _, a4⟩⟩
      obtain ⟨G2, G2', v, c1, c2, c3, c4, c5⟩ := hF0 o5 l p1 G1 G1' a7 (by omega)
      have c1 : rc 0 G1 (nI o + 1) = some (G2, v) := c1
      rw [a1, a2, bndP_e, bndP_e, if_neg i10', if_neg i10', c1, c2, bndP_e, bndO_e]
      rcases c5 with ⟨rfl, l2, p2, d1, d2, d3, d4, d5, d6⟩ | ⟨rfl, l2, p2, d1, d2, d3⟩
      · rw [if_neg i10']
        have s41 := isS (c := 41) (by decide) d4.2.1 d4.2.2.2.2.2.2.2.2.2
        unfold f_X5_pass
        by_cases h41 : G2 114 5 = 41
        · have h22 : G2' 0 22 - 1 = nI o := by
            rw [d4.2.2.1]
            exact (subI (a := o + 1) (b := 1) (by omega)).trans (by rw [show o + 1 - 1 = o by omega])
          obtain ⟨G3, G3', p3, b1, b2, b3, b4, b5, b6, b7, b8, b9⟩ := adv_ok (Ok.opn (o2 := o) d4) (by rw [h41]; decide)
          rw [if_pos h41, (s41.1 h41).1, if_neg i10', bnd_e, h22, b1, b2, bndO_e, bndO_e, bndP_e, if_neg i10']
          have hac : acR G3' = acR G2' := b6
          have k5 : Kp l2 G2' G3' := fun k hk => by
            obtain ⟨q1, q2⟩ := b5 l2 k hk
            rw [q1, q2, up2_o (by omega), up2_o (by omega)]
            exact ⟨rfl, rfl⟩
          exact ⟨G3, G3', 1, rfl, rfl, (a3.tr c3).tr b3, ((a4.tr c4).tr FrR.opn).tr b4, Or.inl ⟨rfl, l2, p3, d1, by omega, by omega, b9, (a5.tr (Nat.le_refl _) d5).tr (by omega) k5, fun M h hM => by rw [hac]; exact d6 M h (by omega)⟩⟩
        · rw [if_neg h41, s41.2 h41, if_pos rfl, bndP_e, if_pos rfl]
          obtain ⟨G3', f1, f2, f3⟩ := fault d4 (by omega)
          rw [f1, bndO_e]
          exact ⟨G2, G3', 0, rfl, rfl, a3.tr c3, (a4.tr c4).tr f2, Or.inr ⟨rfl, l2, p2, by omega, by omega, f3⟩⟩
      · have hge := Bad.ge d3 hz.1
        rw [if_pos rfl, if_pos (noK hge).2]
        unfold f_X12_faulty
        rw [if_pos hge, bndO_e]
        exact ⟨G2, G2', 0, rfl, rfl, a3.tr c3, a4.tr c4, Or.inr ⟨rfl, l2, p2, by omega, by omega, d3⟩⟩
    · exact non n7 n6 h45 h40 rj
  · exact non (by rw [k1]; decide) (by rw [k1]; decide) (by rw [k1]; decide) (by rw [k1]; decide) (refJ (by rw [k2]; decide) (fun q => by rw [k2] at q; exact absurd q (by decide)))
  · exact non (by rw [k1]; decide) (by rw [k1]; decide) (by rw [k1]; decide) (by rw [k1]; decide) (refJ (by rw [k2]; decide) (fun q => by rw [k2] at q; exact absurd q (by decide)))
/-- all pieces at every depth -/
theorem ct_all {T : Nat → Int32} {sz : Nat} : ∀ (d j o : Nat), j < 6 → o ≤ 5 → 6 * (6 - o) - j ≤ d → Ct T sz o (6 - j + 5 * (5 - o)) (fun G => gR d j G (nI o)) (fun G => gM d j G) := by
  intro d
  induction d with
  | zero => intro j o hj ho hd; omega
  | succ d ih =>
    intro j o hj ho hd
    have nx : nI o + 1 = nI (o + 1) := nI_1 o
    rcases (show j = 0 ∨ j = 1 ∨ j = 2 ∨ j = 3 ∨ j = 4 ∨ j = 5 by omega) with rfl | rfl | rfl | rfl | rfl | rfl
    · rw [show 6 - 0 + 5 * (5 - o) = 6 - 1 + 5 * (5 - o) + 1 by omega]
      exact ct_either (rc := gR d) (rr := gM d) (ih 1 o (by decide) ho (by omega))
    · rw [show 6 - 1 + 5 * (5 - o) = 6 - 2 + 5 * (5 - o) + 1 by omega]
      exact ct_both (rc := gR d) (rr := gM d) (ih 2 o (by decide) ho (by omega))
    · rw [show 6 - 2 + 5 * (5 - o) = 6 - 3 + 5 * (5 - o) + 1 by omega]
      exact ct_denied (rc := gR d) (rr := gM d) (H3 := 6 - 2 + 5 * (5 - (o + 1))) ho (ih 3 o (by decide) ho (by omega)) (fun h5 => by rw [nx]; exact ih 2 (o + 1) (by decide) (by omega) (by omega)) (by omega)
    · rw [show 6 - 3 + 5 * (5 - o) = 6 - 4 + 5 * (5 - o) + 1 by omega]
      exact ct_sum (rc := gR d) (rr := gM d) (ih 4 o (by decide) ho (by omega))
    · rw [show 6 - 4 + 5 * (5 - o) = 6 - 5 + 5 * (5 - o) + 1 by omega]
      exact ct_term (rc := gR d) (rr := gM d) (ih 5 o (by decide) ho (by omega))
    · by_cases h5 : o < 5
      · exact ct_one (rc := gR d) (rr := gM d) (H0 := 6 - 0 + 5 * (5 - (o + 1))) (H5 := 6 - 5 + 5 * (5 - (o + 1))) ho (fun h5 => by rw [nx]; exact ih 0 (o + 1) (by decide) (by omega) (by omega)) (fun h5 => by rw [nx]; exact ih 5 (o + 1) (by decide) (by omega) (by omega)) (by omega)
      · exact ct_one (rc := gR d) (rr := gM d) (H0 := 0) (H5 := 0) ho (fun q => absurd q h5) (fun q => absurd q h5) (by omega)
