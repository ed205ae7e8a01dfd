-- the four sums of the parsers
theorem isK {G : Mem} {t v : Int32} {m : Nat} (hm : m < 6) (h21 : G 0 21 = -1) (ht : tkR t v (G 0 25) (G 0 26)) : (t = nI m → f_X12_isKey G (nI (10 + m)) = 1) ∧ (¬ t = nI m → f_X12_isKey G (nI (10 + m)) = 0) := by
  unfold f_X12_isKey
  rw [h21, if_neg (by decide)]
  rcases ht with ⟨k, k1, k2, k3, k4⟩ | ⟨k, k1, k2, k3, k4, k5⟩ | ⟨k, k1, k2, k3, k4, k5⟩ | ⟨k1, k2, k3⟩ | ⟨k1, k2⟩ | ⟨k1, k2⟩
  · rw [k3, if_pos rfl, k4, k2]
    constructor
    · intro q
      rw [(nI_eq (by omega) (by omega)).mp q, if_pos rfl]
    · intro q
      rw [if_neg (fun z => q ((nI_eq (by omega) (by omega)).mpr (by have := (nI_eq (by omega) (by omega)).mp z; omega)))]
  · rw [k4, if_pos rfl, k5, k2]
    constructor
    · intro q
      have := (nI_eq (a := 6) (b := m) (by omega) (by omega)).mp q
      omega
    · intro q
      rw [if_neg (fun z => by have := (nI_eq (by omega) (by omega)).mp z; omega)]
  · rw [k4, if_neg (by decide), k2]
    exact ⟨fun q => by have := (nI_eq (a := 7) (b := m) (by omega) (by omega)).mp q; omega, fun _ => rfl⟩
  · rw [k2, if_neg (by decide)]
    refine ⟨fun q => ?_, fun _ => rfl⟩
    rw [q] at k1
    exact absurd k1 ((show ∀ m, m < 6 → ¬ sgn8 (nI m) = true by decide +kernel) m hm)
  · rw [k2, if_neg (by decide), k1]
    exact ⟨fun q => by have := (nI_eq (a := 9) (b := m) (by omega) (by omega)).mp q; omega, fun _ => rfl⟩
  · rw [k2, if_neg (by decide), k1]
    exact ⟨fun q => by have := (nI_eq (a := 10) (b := m) (by omega) (by omega)).mp q; omega, fun _ => rfl⟩
theorem isS {G : Mem} {t v c : Int32} (hc : sgn8 c = true) (h21 : G 0 21 = -1) (ht : tkR t v (G 0 25) (G 0 26)) : (t = c → f_X12_isSign G c = 1 ∧ G 0 26 = c) ∧ (¬ t = c → f_X12_isSign G c = 0) := by
  unfold f_X12_isSign
  rw [h21, if_neg (by decide)]
  rcases ht with ⟨k, k1, k2, k3, k4⟩ | ⟨k, k1, k2, k3, k4, k5⟩ | ⟨k, k1, k2, k3, k4, k5⟩ | ⟨k1, k2, k3⟩ | ⟨k1, k2⟩ | ⟨k1, k2⟩
  · rw [k3, if_neg (by decide)]
    refine ⟨fun q => ?_, fun _ => rfl⟩
    rw [← q, k2] at hc
    exact absurd hc ((show ∀ m, m < 6 → ¬ sgn8 (nI m) = true by decide +kernel) k k1)
  · rw [k4, if_neg (by decide)]
    refine ⟨fun q => ?_, fun _ => rfl⟩
    rw [← q, k2] at hc
    exact absurd hc (by decide)
  · rw [k4, if_neg (by decide)]
    refine ⟨fun q => ?_, fun _ => rfl⟩
    rw [← q, k2] at hc
    exact absurd hc (by decide)
  · rw [k2, if_pos rfl, k3]
    exact ⟨fun q => ⟨if_pos q, q⟩, fun q => if_neg q⟩
  · rw [k2, if_neg (by decide)]
    refine ⟨fun q => ?_, fun _ => rfl⟩
    rw [← q, k1] at hc
    exact absurd hc (by decide)
  · rw [k2, if_neg (by decide)]
    refine ⟨fun q => ?_, fun _ => rfl⟩
    rw [← q, k1] at hc
    exact absurd hc (by decide)
theorem noK {G : Mem} {c : Int32} (h : 0 ≤ G 0 21) : f_X12_isKey G c = 0 ∧ f_X12_isSign G c = 0 := by
  unfold f_X12_isKey f_X12_isSign
  rw [if_pos h, if_pos h]
  exact ⟨rfl, rfl⟩
theorem i10' : ¬ (1 : Int32) = 0 := by decide
theorem ct_either {T : Nat → Int32} {sz o H : Nat} {rc : Nat → Mem → Int32 → Option (Mem × Int32)} {rr : Nat → Mem → Option Mem} {x1 : Int32} (hF : Ct T sz o H (fun G => rc 1 G x1) (rr 1)) : Ct T sz o (H + 1) (fun G => f_X5_either rc G x1) (fun G => f_X12_either rr G) := by
  refine loopB hF (q_X5_either_8 rc x1) (q_X12_either_4 rr) (fun t => t = 3) (fun _ => 3) (fun _ => 5) (fun t ht => ⟨by rw [ht]; decide, by decide, Or.inr (Or.inr ⟨by decide, rfl⟩), by unfold binA; decide⟩) ?_ ?_ ?_ ?_ ?_ ?_
  · intro rec G i
    show (if 160 ≤ i then chk (isB 0) (some (G, 0)) else if (0 : Int32) = 0 then chk (isB 0) (some (G, 0)) else _) = _
    split <;> rfl
  · intro rec G i hn
    show (if 160 ≤ i then chk (isB 1) (some (G, 1)) else if (1 : Int32) = 0 then _ else if G 114 5 = 3 then _ else chk (isB 1) (some (G, 1))) = _
    rw [if_neg i10', if_neg hn]
    split <;> rfl
  · intro rec G i hi ho
    show (if 160 ≤ i then _ else if (1 : Int32) = 0 then _ else if G 114 5 = 3 then _ else _) = _
    rw [if_neg hi, if_neg i10', if_pos ho]
    rfl
  · intro rec G h
    unfold q_X12_either_4
    rw [if_pos (noK h).1]
  · intro rec G t v h21 ht ho
    unfold q_X12_either_4
    rw [show (13 : Int32) = nI (10 + 3) from rfl, if_pos ((isK (m := 3) (by decide) h21 ht).2 ho)]
  · intro rec G t v h21 ht ho
    unfold q_X12_either_4
    rw [show (13 : Int32) = nI (10 + 3) from rfl, (isK (m := 3) (by decide) h21 ht).1 ho, if_neg i10']
theorem ct_both {T : Nat → Int32} {sz o H : Nat} {rc : Nat → Mem → Int32 → Option (Mem × Int32)} {rr : Nat → Mem → Option Mem} {x1 : Int32} (hF : Ct T sz o H (fun G => rc 2 G x1) (rr 2)) : Ct T sz o (H + 1) (fun G => f_X5_both rc G x1) (fun G => f_X12_all rr G) := by
  refine loopB hF (q_X5_both_8 rc x1) (q_X12_all_4 rr) (fun t => t = 4) (fun _ => 4) (fun _ => 6) (fun t ht => ⟨by rw [ht]; decide, by decide, Or.inr (Or.inr ⟨by decide, rfl⟩), by unfold binA; decide⟩) ?_ ?_ ?_ ?_ ?_ ?_
  · intro rec G i
    show (if 160 ≤ i then chk (isB 0) (some (G, 0)) else if (0 : Int32) = 0 then chk (isB 0) (some (G, 0)) else _) = _
    split <;> rfl
  · intro rec G i hn
    show (if 160 ≤ i then chk (isB 1) (some (G, 1)) else if (1 : Int32) = 0 then _ else if G 114 5 = 4 then _ else chk (isB 1) (some (G, 1))) = _
    rw [if_neg i10', if_neg hn]
    split <;> rfl
  · intro rec G i hi ho
    show (if 160 ≤ i then _ else if (1 : Int32) = 0 then _ else if G 114 5 = 4 then _ else _) = _
    rw [if_neg hi, if_neg i10', if_pos ho]
    rfl
  · intro rec G h
    unfold q_X12_all_4
    rw [if_pos (noK h).1]
  · intro rec G t v h21 ht ho
    unfold q_X12_all_4
    rw [show (14 : Int32) = nI (10 + 4) from rfl, if_pos ((isK (m := 4) (by decide) h21 ht).2 ho)]
  · intro rec G t v h21 ht ho
    unfold q_X12_all_4
    rw [show (14 : Int32) = nI (10 + 4) from rfl, (isK (m := 4) (by decide) h21 ht).1 ho, if_neg i10']
theorem ct_term {T : Nat → Int32} {sz o H : Nat} {rc : Nat → Mem → Int32 → Option (Mem × Int32)} {rr : Nat → Mem → Option Mem} {x1 : Int32} (hF : Ct T sz o H (fun G => rc 5 G x1) (rr 5)) : Ct T sz o (H + 1) (fun G => f_X5_product rc G x1) (fun G => f_X12_term rr G) := by
  refine loopB hF (q_X5_product_8 rc x1) (q_X12_term_4 rr) (fun t => t = 42) (fun _ => 42) (fun _ => 42) (fun t ht => ⟨by rw [ht]; decide, by decide, Or.inr (Or.inr ⟨by decide, rfl⟩), by unfold binA; decide⟩) ?_ ?_ ?_ ?_ ?_ ?_
  · intro rec G i
    show (if 160 ≤ i then chk (isB 0) (some (G, 0)) else if (0 : Int32) = 0 then chk (isB 0) (some (G, 0)) else _) = _
    split <;> rfl
  · intro rec G i hn
    show (if 160 ≤ i then chk (isB 1) (some (G, 1)) else if (1 : Int32) = 0 then _ else if G 114 5 = 42 then _ else chk (isB 1) (some (G, 1))) = _
    rw [if_neg i10', if_neg hn]
    split <;> rfl
  · intro rec G i hi ho
    show (if 160 ≤ i then _ else if (1 : Int32) = 0 then _ else if G 114 5 = 42 then _ else _) = _
    rw [if_neg hi, if_neg i10', if_pos ho]
    rfl
  · intro rec G h
    unfold q_X12_term_4
    rw [if_pos (noK h).2]
  · intro rec G t v h21 ht ho
    unfold q_X12_term_4
    rw [if_pos ((isS (c := 42) (by decide) h21 ht).2 ho)]
  · intro rec G t v h21 ht ho
    unfold q_X12_term_4
    rw [((isS (c := 42) (by decide) h21 ht).1 ho).1, if_neg i10']
theorem ct_sum {T : Nat → Int32} {sz o H : Nat} {rc : Nat → Mem → Int32 → Option (Mem × Int32)} {rr : Nat → Mem → Option Mem} {x1 : Int32} (hF : Ct T sz o H (fun G => rc 4 G x1) (rr 4)) : Ct T sz o (H + 1) (fun G => f_X5_sum rc G x1) (fun G => f_X12_sum rr G) := by
  refine loopB hF (q_X5_sum_8 rc x1) (q_X12_sum_4 rr) (fun t => t = 43 ∨ t = 45) (fun t => t) (fun t => t) (fun t ht => ?_) ?_ ?_ ?_ ?_ ?_ ?_
  · rcases ht with rfl | rfl
    · exact ⟨by decide, by decide, Or.inr (Or.inr ⟨by decide, rfl⟩), by unfold binA; decide⟩
    · exact ⟨by decide, by decide, Or.inr (Or.inr ⟨by decide, rfl⟩), by unfold binA; decide⟩
  · intro rec G i
    show (if 160 ≤ i then chk (isB 0) (some (G, 0)) else if (0 : Int32) = 0 then chk (isB 0) (some (G, 0)) else _) = _
    split <;> rfl
  · intro rec G i hn
    show (if 160 ≤ i then chk (isB 1) (some (G, 1)) else if (1 : Int32) = 0 then _ else if G 114 5 = 43 then _ else if G 114 5 = 45 then _ else chk (isB 1) (some (G, 1))) = _
    rw [if_neg i10', if_neg (fun q => hn (Or.inl q)), if_neg (fun q => hn (Or.inr q))]
    split <;> rfl
  · intro rec G i hi ho
    show (if 160 ≤ i then _ else if (1 : Int32) = 0 then _ else if G 114 5 = 43 then _ else if G 114 5 = 45 then _ else _) = _
    rw [if_neg hi, if_neg i10']
    by_cases h43 : G 114 5 = 43
    · rw [if_pos h43]; rfl
    · rw [if_neg h43, if_pos (ho.resolve_left h43)]; rfl
  · intro rec G h
    unfold q_X12_sum_4
    rw [if_pos (noK h).2, if_pos (noK h).2]
  · intro rec G t v h21 ht ho
    unfold q_X12_sum_4
    rw [if_pos ((isS (c := 43) (by decide) h21 ht).2 (fun q => ho (Or.inl q))), if_pos ((isS (c := 45) (by decide) h21 ht).2 (fun q => ho (Or.inr q)))]
  · intro rec G t v h21 ht ho
    unfold q_X12_sum_4
    by_cases h43 : t = 43
    · obtain ⟨e1, e2⟩ := (isS (c := 43) (by decide) h21 ht).1 h43
      rw [e1, if_neg i10', h43]
      unfold j_X12_sum_22
      rw [bnd_e, e2]
    · obtain ⟨e1, e2⟩ := (isS (c := 45) (by decide) h21 ht).1 (ho.resolve_left h43)
      rw [(isS (c := 43) (by decide) h21 ht).2 h43, if_pos rfl, e1, if_neg i10', ho.resolve_left h43]
      unfold j_X12_sum_22
      rw [bnd_e, e2]
