-- what opens and closes; the one-handed steps
theorem Ok.opn {T : Nat → Int32} {sz l p o o2 : Nat} {G G' : Mem} (h : Ok T sz l p o G G') : Ok T sz l p o2 G (up2 G' 0 22 (nI o2)) := by
  obtain ⟨hT, a1, a2, a3, a4, a5, a6, a7, ⟨r, a8, a9, a10, a11, a12⟩, a13⟩ := h
  refine ⟨hT.cg (fun _ _ _ => rfl) (fun b j hb => up2_o (by omega)), by rw [up2_o (by omega)]; exact a1, up2_aa _ _ _ _, a3, by rw [up2_o (by omega)]; exact a4, fun k hk => ?_, a6, by rw [up2_o (by omega)]; exact a7, ⟨r, a8, by rw [up2_o (by omega)]; exact a9, a10, a11, a12⟩, ?_⟩
  · rw [up2_o (by omega), up2_o (by omega)]; exact a5 k hk
  · rw [up2_o (by omega), up2_o (by omega)]; exact a13
theorem FrR.opn {G' : Mem} {v : Int32} : FrR G' (up2 G' 0 22 v) := fun b j x y => up2_o (by omega)
theorem Bad.opn {sz l p : Nat} {G G' : Mem} {v : Int32} (h : Bad sz l p G G') : Bad sz l p G (up2 G' 0 22 v) := by
  obtain ⟨b1, b2, b3, b4, b5⟩ := h
  exact ⟨b1, b2, by rw [up2_o (by omega)]; exact b3, by rw [up2_o (by omega)]; exact b4, b5⟩
theorem Bad.ge {sz l p : Nat} {G G' : Mem} (h : Bad sz l p G G') (hs : sz ≤ 160) : 0 ≤ G' 0 21 := by
  rw [h.2.2.1]
  have := h.1
  exact nI_le (a := 0) (by omega) (by omega)
theorem fault {T : Nat → Int32} {sz l p o : Nat} {G G' : Mem} (h : Ok T sz l p o G G') (hlp : l ≤ p) : ∃ Gz', f_X12_faulty G' = some Gz' ∧ FrR G' Gz' ∧ Bad sz l p G Gz' := by
  have hz := h.sz
  obtain ⟨hT, a1, a2, a3, a4, a5, a6, a7, -⟩ := h
  unfold f_X12_faulty
  rw [a1, if_neg (by decide), bnd_e, a7]
  exact ⟨_, rfl, fun b j x y => up2_o (by omega), hz.2.1, a6, up2_aa _ _ _ _, by rw [up2_o (by omega)]; exact a4, l, by omega, a3⟩
theorem FrC.rfl' {G : Mem} : FrC G G := fun _ _ _ _ => rfl
/-- enter and opens -/
theorem enter {T : Nat → Int32} {sz l p o : Nat} {G G' : Mem} (h : Ok T sz l p o G G') (hlp : l ≤ p) (ho : o ≤ 5) (hn : ¬ G 114 5 = 9) : (∃ G1 G1' p1, o < 5 ∧ f_X5_enter G (nI o) = some (G1, 1) ∧ f_X12_opens G' = some (G1', 1) ∧ FrC G G1 ∧ FrR G' G1' ∧ Kp l G' G1' ∧ p < p1 ∧ Ok T sz l p1 (o + 1) G1 G1') ∨ (∃ G1', f_X5_enter G (nI o) = some (G, 0) ∧ f_X12_opens G' = some (G1', 0) ∧ FrR G' G1' ∧ Bad sz l p G G1') := by
  unfold f_X5_enter f_X12_opens
  rw [h.2.2.1]
  by_cases h5 : o = 5
  · right
    obtain ⟨Gz', f1, f2, f3⟩ := fault h hlp
    rw [h5, if_neg (by decide), if_pos (by decide), f1, bndO_e]
    exact ⟨Gz', rfl, rfl, f2, f3⟩
  · left
    rw [if_pos (show nI o < (5 : Int32) from nI_lt (b := 5) (by omega) (by decide)), if_neg (show ¬ nI o = (5 : Int32) from fun q => h5 ((nI_eq (b := 5) (by omega) (by decide)).mp q)), bnd_e, nI_1]
    obtain ⟨G1, G1', p1, a1, a2, a3, a4, a5, a6, a7, a8, a9⟩ := adv_ok (Ok.opn (o2 := o + 1) h) hn
    rw [a1, a2, bndO_e, bndO_e]
    refine ⟨G1, G1', p1, by omega, rfl, rfl, a3, FrR.opn.tr a4, fun k hk => ?_, a7, a9⟩
    obtain ⟨q1, q2⟩ := a5 l k hk
    rw [q1, q2, up2_o (by omega), up2_o (by omega)]
    exact ⟨rfl, rfl⟩
theorem unary {T : Nat → Int32} {sz l p o H H2 : Nat} {F : Mem → Option (Mem × Int32)} {F' : Mem → Option Mem} {G G' : Mem} (hF : o < 5 → Ct T sz (o + 1) H F F') (hH : H ≤ H2) (h : Ok T sz l p o G G') (hlp : l ≤ p) (ho : o ≤ 5) (hn : ¬ G 114 5 = 9) {x a : Int32} (he : x + 64 * 0 = enc a 0) (hs : okStep a 0) (hu : a = 3 ∨ a = 4) : ∃ (Gz Gz' : Mem) (v : Int32), bndP (f_X5_enter G (nI o)) (fun G19 v20 => (if v20 = 0 then some (G19, 0) else bndP (F G19) (fun G23 v24 => (if v24 = 0 then some (G23, 0) else bndP (f_X5_emit G23 x 0) (fun G27 v28 => (if v28 = 0 then some (G27, 0) else some (G27, 1))))))) = some (Gz, v) ∧ bndP (f_X12_opens G') (fun G13 v14 => (if v14 = 0 then some G13 else bndO (F' G13) (fun G17 => bnd (up2 G17 0 22 ((G17 0 22) - 1)) (fun G19 => bndO (f_X12_addStep G19 a 0) (fun G20 => some G20))))) = some Gz' ∧ FrC G Gz ∧ FrR G' Gz' ∧ Res T sz o H2 l p G' Gz Gz' v := by
  rcases enter h hlp ho hn with ⟨G1, G1', p1, o5, a1, a2, a3, a4, a5, a6, a7⟩ | ⟨G1', a1, a2, a3, a4⟩
  rotate_left
  · rw [a1, a2, bndP_e, bndP_e, if_pos rfl, if_pos rfl]
    exact ⟨G, G1', 0, rfl, rfl, FrC.rfl', a3, Or.inr ⟨rfl, l, p, Nat.le_refl _, Nat.le_refl _, a4⟩⟩
  obtain ⟨G2, G2', v, c1, c2, c3, c4, c5⟩ := hF o5 l p1 G1 G1' a7 (by omega)
  rw [a1, a2, bndP_e, bndP_e, if_neg i10', if_neg i10', c1, c2, bndP_e, bndO_e, bnd_e]
  have hz := a7.sz
  rcases c5 with ⟨rfl, l2, p2, d1, d2, d3, d4, d5, d6⟩ | ⟨rfl, l2, p2, d1, d2, d3⟩
  · have hsz2 := d4.sz
    have h22 : G2' 0 22 - 1 = nI o := by
      rw [d4.2.2.1]
      exact (subI (a := o + 1) (b := 1) (by omega)).trans (by rw [show o + 1 - 1 = o by omega])
    rw [if_neg i10', h22]
    obtain ⟨G3, G3', e1, e2, e3, e4, e5, e6, e7, e8⟩ := emit_ok (Ok.opn (o2 := o) d4) (x1 := x) (x2 := 0) (a := a) (w := 0) (by omega) he hs
    rw [e1, e2, bndP_e, bndO_e, if_neg i10']
    have k5 : Kp l2 G2' G3' := fun k hk => by
      obtain ⟨q1, q2⟩ := e5 k hk
      rw [q1, q2, up2_o (by omega), up2_o (by omega)]
      exact ⟨rfl, rfl⟩
    refine ⟨G3, G3', 1, rfl, rfl, (a3.tr c3).tr e3, ((a4.tr c4).tr FrR.opn).tr e4, Or.inl ⟨rfl, l2 + 1, p2, by omega, by omega, by omega, e7, (a5.tr (Nat.le_refl _) d5).tr (by omega) k5, fun M h hM => ?_⟩⟩
    rw [show l2 + 1 - l = (l2 - l) + 1 by omega, hts_add, hts_cg (ac := acR G2') (ac2 := acR G3') (l2 - l) l h (fun k k1 k2 => (k5 k (by omega)).1), d6 M h (by omega)]
    show hts (acR G3') M 1 (l + (l2 - l)) (h + 1) = some (h + 1)
    rw [show l + (l2 - l) = l2 by omega]
    show (if acR G3' l2 = 1 ∨ acR G3' l2 = 2 then _ else if acR G3' l2 = 3 ∨ acR G3' l2 = 4 then _ else _) = _
    rw [e6, if_neg (by rcases hu with rfl | rfl <;> decide), if_pos hu, if_pos (by omega)]
    rfl
  · have hp2 := d3.1
    rw [if_pos rfl]
    obtain ⟨G3', e1, e2, e3⟩ := add_bad12 (Bad.opn (v := G2' 0 22 - 1) d3) (by omega) (a := a) (w := 0)
    rw [e1, bndO_e]
    exact ⟨G2, G3', 0, rfl, rfl, a3.tr c3, ((a4.tr c4).tr FrR.opn).tr e2, Or.inr ⟨rfl, l2 + 1, p2, by omega, by omega, e3⟩⟩
theorem ct_denied {T : Nat → Int32} {sz o H H3 : Nat} {rc : Nat → Mem → Int32 → Option (Mem × Int32)} {rr : Nat → Mem → Option Mem} (ho : o ≤ 5) (hF : Ct T sz o H (fun G => rc 3 G (nI o)) (rr 3)) (hF2 : o < 5 → Ct T sz (o + 1) H3 (fun G => rc 2 G (nI o + 1)) (rr 2)) (hH : H3 ≤ H + 1) : Ct T sz o (H + 1) (fun G => f_X5_negated rc G (nI o)) (fun G => f_X12_denied rr G) := by
  intro l p G G' h hlp
  have h21 := h.2.1
  have htk := h.2.2.2.2.2.2.2.2.2
  show ∃ Gz Gz' v, f_X5_negated rc G (nI o) = _ ∧ f_X12_denied rr G' = _ ∧ _
  unfold f_X5_negated f_X12_denied
  have hK := isK (m := 5) (by decide) h21 htk
  rw [show nI (10 + 5) = (15 : Int32) from rfl, show nI 5 = (5 : Int32) from rfl] at hK
  by_cases h5 : G 114 5 = 5
  · rw [if_pos h5, hK.1 h5, if_neg i10']
    exact unary hF2 hH h hlp ho (by rw [h5]; decide) (x := 5) (a := 3) (by decide) (Or.inr (Or.inr ⟨by decide, rfl⟩)) (Or.inl rfl)
  rw [if_neg h5, hK.2 h5, if_pos rfl]
  obtain ⟨G1, G1', v, c1, c2, c3, c4, c5⟩ := hF l p G G' h hlp
  have c1 : rc 3 G (nI o) = some (G1, v) := c1
  rw [c1, c2, bndP_e, bndO_e]
  rcases c5 with ⟨rfl, l1, p1, d1, d2, d3, d4, d5, d6⟩ | ⟨rfl, l2, p2, d1, d2, d3⟩
  rotate_left
  · have hge := Bad.ge d3 h.sz.1
    rw [if_pos rfl, if_pos (noK hge).2, if_pos (noK hge).2]
    exact ⟨G1, G1', 0, rfl, rfl, c3, c4, Or.inr ⟨rfl, l2, p2, d1, d2, d3⟩⟩
  rw [if_neg i10']
  have g21 := d4.2.1
  have gtk := d4.2.2.2.2.2.2.2.2.2
  have s60 := isS (c := 60) (by decide) g21 gtk
  have s61 := isS (c := 61) (by decide) g21 gtk
  have fin : ∀ c : Int32, (c = 60 ∨ c = 61) → G1 114 5 = c → G1' 0 26 = c → ∃ Gz Gz' v, j_X5_negated_71 rc (nI o) G1 = some (Gz, v) ∧ j_X12_denied_61 rr G1' = some Gz' ∧ FrC G Gz ∧ FrR G' Gz' ∧ Res T sz o (H + 1) l p G' Gz Gz' v := by
    intro c hc t1 t2
    unfold j_X5_negated_71 j_X12_denied_61
    rw [bnd_e, bnd_e, t1, t2]
    obtain ⟨A1, A2, A3, A1', A2', A3', v2, e1, e2, e3, e4, e5, e6, e7, e8, e9⟩ := binstep hF d4 (by omega) (by rw [t1]; rcases hc with rfl | rfl <;> decide) (x1 := c) (a := c) (by rcases hc with rfl | rfl <;> decide) (by rcases hc with rfl | rfl <;> exact Or.inr (Or.inr ⟨by decide, rfl⟩)) (by unfold binA; rcases hc with rfl | rfl <;> decide)
    have e2 : rc 3 A1 (nI o) = some (A2, v2) := e2
    rw [e1, bndO_e, e2, bndP_e, e4, bndO_e, e5, bndO_e, e6, bndO_e]
    rcases e9 with ⟨rfl, l2, p2, f1, f2, f3, f4, f5, f6⟩ | ⟨rfl, l2, p2, f1, f2, f3, f4, f5⟩
    · rw [if_neg i10', e3, bndP_e, if_neg i10']
      refine ⟨A3, A3', 1, rfl, rfl, c3.tr e7, c4.tr e8, Or.inl ⟨rfl, l2, p2, by omega, by omega, by omega, f4, d5.tr (by omega) f5, fun M h hM => ?_⟩⟩
      rw [show l2 - l = (l1 - l) + (l2 - l1) by omega, hts_add, hts_cg (ac := acR G1') (ac2 := acR A3') (l1 - l) l h (fun k k1 k2 => (f5 k (by omega)).1), d6 M h (by omega)]
      show hts (acR A3') M (l2 - l1) (l + (l1 - l)) (h + 1) = some (h + 1)
      rw [show l + (l1 - l) = l1 by omega]
      exact f6 M (h + 1) (by omega) (by omega)
    · rw [if_pos rfl]
      exact ⟨A2, A3', 0, rfl, rfl, c3.tr f5, c4.tr e8, Or.inr ⟨rfl, l2, p2, by omega, by omega, f4⟩⟩
  by_cases h60 : G1 114 5 = 60
  · rw [if_pos h60, (s60.1 h60).1, if_neg i10']
    exact fin 60 (Or.inl rfl) h60 (s60.1 h60).2
  rw [if_neg h60, s60.2 h60, if_pos rfl]
  by_cases h61 : G1 114 5 = 61
  · rw [if_pos h61, (s61.1 h61).1, if_neg i10']
    exact fin 61 (Or.inr rfl) h61 (s61.1 h61).2
  rw [if_neg h61, s61.2 h61, if_pos rfl]
  exact ⟨G1, G1', 1, rfl, rfl, c3, c4, Or.inl ⟨rfl, l1, p1, d1, d2, d3, d4, d5, fun M h hM => d6 M h (by omega)⟩⟩
