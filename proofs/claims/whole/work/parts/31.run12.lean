-- one way sung step by step: the reference's side
abbrev Sg : Type := Int32 × Int32 × Int32 × Bool
def b2 (b : Bool) : Int32 := if b then 1 else 0
theorem b2_t : b2 true = 1 := rfl
theorem b2_f : b2 false = 0 := rfl
theorem b2_nar (b : Bool) : vp_nar .boolean (b2 b) = b2 b := by cases b <;> rfl
theorem b2_0 (b : Bool) : b2 b = 0 ↔ b = false := by cases b <;> decide
/-- one singer's step -/
def oneS (lost beg : Bool) (tkv : Int32) (s : Sg) : Sg := if lost then (0, 0, s.2.2.1, false) else if s.2.1 = 0 then (if beg then (0, tkv - 1, s.2.2.1 + 1, false) else (s.1 + 1, 0, s.2.2.1, true)) else (0, s.2.1 - 1, s.2.2.1, false)
def fctS (B : Mem) (n k i : Nat) (lo : Nat → Int32) (st : Nat → Sg) : Nat → Int32 := fun j => if j = 0 then (st i).1 else if j = 1 then lo k else if j = 2 then nI k else if j = 3 then nI (cntB (fun o => decide (o ≠ i) && decide (B 6 o = B 6 i) && (st o).2.2.2) n) else if j = 4 then nI (cntB (fun o => (decide (o + 1 = i) || decide (o = i + 1)) && !(st o).2.2.2) n) else if j = 5 then (st i).2.2.1 else 0
noncomputable def begS (B : Mem) (ev : Nat → (Nat → Int32) → Int32) (way : Int32) (lo : Nat → Int32) (pl : Nat → Nat → Bool) (n k i : Nat) (st : Nat → Sg) : Bool := if way = 1 then decide (B 2 k = 1) else if f_X12_in way 2 5 = 0 then (if (st i).1 < capS (B 5 i) (B 7 i) (B 8 i) (st i).2.2.1 (lo k) then (if way = 6 then false else if ev 0 (fctS B n k i lo st) = 0 then (if ev 1 (fctS B n k i lo st) = 0 then false else decide (B 4 (B 6 i).toNatClampNeg ≤ fctS B n k i lo st 3) && decide (fctS B n k i lo st 4 = 0)) else true) else true) else pl i k
noncomputable def stepS (B : Mem) (ev : Nat → (Nat → Int32) → Int32) (way : Int32) (lo : Nat → Int32) (pl : Nat → Nat → Bool) (n ls lk k : Nat) (st : Nat → Sg) : Nat → Sg := fun i => oneS (decide (i = ls ∧ lk ≤ k)) (begS B ev way lo pl n k i st) (tkS (B 5 i) (B 9 i) (st i).2.2.1) (st i)
noncomputable def runS (B : Mem) (ev : Nat → (Nat → Int32) → Int32) (way : Int32) (lo : Nat → Int32) (pl : Nat → Nat → Bool) (n ls lk : Nat) : Nat → Nat → Sg
  | 0 => fun _ => (0, 0, 0, true)
  | k + 1 => stepS B ev way lo pl n ls lk k (runS B ev way lo pl n ls lk k)
def CxR (B : Mem) (ev : Nat → (Nat → Int32) → Int32) (way : Int32) (lo : Nat → Int32) (pl : Nat → Nat → Bool) (n km : Nat) : Prop := n ≤ 10 ∧ B 0 7 = nI n ∧ (∀ i, i < n → rgB (B 6 i) 4) ∧ (∀ k, k < km → (0 ≤ B 0 40 ∧ lo k = B 0 40) ∨ (¬ 0 ≤ B 0 40 ∧ k < 48 ∧ lo k = B 1 k)) ∧ (way = 1 → km ≤ 48) ∧ (∀ p, p < 3 → ∀ (G : Mem) (f : Nat → Int32), G 0 = B 0 → G 11 = B 11 → G 12 = B 12 → G 13 = B 13 → (∀ j, j < 6 → G 15 j = f j) → ∃ Gz, f_X12_gives G (nI p) = some (Gz, ev p f) ∧ ∀ b, b ≠ 14 → Gz b = G b) ∧ (¬ f_X12_in way 2 5 = 0 → ∀ i k, i < n → k < km → ∀ G : Mem, G 0 = B 0 → G 32 = B 32 → G 33 = B 33 → f_X12_isPlanned G (way - 2) (nI i) (nI k) = some (b2 (pl i k))) ∧ (∀ i, i < n → rgB (B 5 i) 6 ∧ rgC (B 9 i) 1 9) ∧ km ≤ 1000
theorem tk_rg {k b o : Int32} (hk : rgB k 6) (hb : rgC b 1 9) : rgC (tkS k b o) 1 18 := by
  obtain ⟨m, h1, h2, rfl⟩ := hb
  unfold tkS
  split
  · exact ⟨2 * m, by omega, by omega, by rw [show (2 : Int32) = nI 2 from rfl, mulI]⟩
  split
  · split
    · exact ⟨m, h1, by omega, rfl⟩
    · exact ⟨m + 1, by omega, by omega, nI_1 m⟩
  · exact ⟨m, h1, by omega, rfl⟩
theorem lo12 {B : Mem} {lo : Nat → Int32} {k : Nat} (h : (0 ≤ B 0 40 ∧ lo k = B 0 40) ∨ (¬ 0 ≤ B 0 40 ∧ k < 48 ∧ lo k = B 1 k)) {G : Mem} (h0 : G 0 = B 0) (h1 : G 1 = B 1) : f_X12_loudAt G (nI k) = some (lo k) := by
  unfold f_X12_loudAt
  rw [h0, h1]
  rcases h with ⟨a, b⟩ | ⟨a, b, c⟩
  · rw [if_pos a, b]
  · rw [if_neg a, chk_t (inB_n b (by decide)), nI_clamp (by omega), c]
theorem cntB_t {d : Nat → Bool} {n : Nat} (h : d n = true) : cntB d (n + 1) = cntB d n + 1 := by
  show cntB d n + (if d n then 1 else 0) = _
  rw [if_pos h]
theorem cntB_f {d : Nat → Bool} {n : Nat} (h : ¬ d n = true) : cntB d (n + 1) = cntB d n := by
  show cntB d n + (if d n then 1 else 0) = _
  rw [if_neg h]
  rfl
/-- the facts of one singer -/
theorem ff12 {B : Mem} {n k s : Nat} {lo : Nat → Int32} {st : Nat → Sg} {G : Mem} (hn : n ≤ 10) (h7 : B 0 7 = nI n) (hs : s < n) (hk : k < 1000) (hlo : (0 ≤ B 0 40 ∧ lo k = B 0 40) ∨ (¬ 0 ≤ B 0 40 ∧ k < 48 ∧ lo k = B 1 k)) (h0 : G 0 = B 0) (h1 : G 1 = B 1) (h6 : G 6 = B 6) (h18 : G 18 s = (st s).1) (h20 : G 20 s = (st s).2.2.1) (h22 : ∀ o, o < n → (k = 0 ∧ (st o).2.2.2 = true) ∨ (0 < k ∧ G 22 o = b2 (st o).2.2.2)) : ∃ Gz, f_X12_findFacts G (nI s) (nI k) = some Gz ∧ (∀ b, b ≠ 15 → Gz b = G b) ∧ ∀ j, j < 6 → Gz 15 j = fctS B n k s lo st j := by
  unfold f_X12_findFacts
  have hb : inB (nI s) 10 = true := inB_n (by omega) (by decide)
  have hc : (nI s).toNatClampNeg = s := nI_clamp (by omega)
  rw [chk_t hb, bnd_e, lo12 hlo (by rw [up2_n _ _ _ (by decide)]; exact h0) (by rw [up2_n _ _ _ (by decide)]; exact h1), bndO_e, bnd_e, bnd_e, bnd_e, bnd_e, chk_t hb, bnd_e, hc, h18, up2_n _ _ _ (show (20 : Nat) ≠ 15 by decide), up2_n _ _ _ (show (20 : Nat) ≠ 15 by decide), up2_n _ _ _ (show (20 : Nat) ≠ 15 by decide), up2_n _ _ _ (show (20 : Nat) ≠ 15 by decide), up2_n _ _ _ (show (20 : Nat) ≠ 15 by decide), h20]
  have key := iter_fuel (q_X12_findFacts_58 (nI s) (nI k)) (fun m a => ∃ H : Mem, a = (H, nI m) ∧ (∀ b, b ≠ 15 → H b = G b) ∧ (∀ j, j < 6 → j ≠ 3 → j ≠ 4 → H 15 j = fctS B n k s lo st j) ∧ H 15 3 = nI (cntB (fun o => decide (o ≠ s) && decide (B 6 o = B 6 s) && (st o).2.2.2) m) ∧ H 15 4 = nI (cntB (fun o => (decide (o + 1 = s) || decide (o = s + 1)) && !(st o).2.2.2) m)) (fun r => ∃ Gz, r = some Gz ∧ (∀ b, b ≠ 15 → Gz b = G b) ∧ ∀ j, j < 6 → Gz 15 j = fctS B n k s lo st j) n (by omega) ?_ ?_ (a := (up2 (up2 (up2 (up2 (up2 (up2 G 15 (0 : Int32).toNatClampNeg (st s).1) 15 (1 : Int32).toNatClampNeg (lo k)) 15 (2 : Int32).toNatClampNeg (nI k)) 15 (3 : Int32).toNatClampNeg 0) 15 (4 : Int32).toNatClampNeg 0) 15 (5 : Int32).toNatClampNeg (st s).2.2.1, 0)) ?_
  · exact key
  · rintro m a hm ⟨H, rfl, e1, e2, e3, e4⟩ rec
    left
    have hnx : nI m + 1 = nI (m + 1) := nI_1 m
    have hcm : (nI m).toNatClampNeg = m := nI_clamp (by omega)
    have hbm : inB (nI m) 10 = true := inB_n (by omega) (by decide)
    have ne0 : H 0 7 = nI n := by rw [e1 0 (by decide), h0, h7]
    -- what the last join does
    have j149 : ∀ H1 : Mem, j_X12_findFacts_149 (nI s) (nI k) rec H1 (nI m) = rec (H1, nI (m + 1)) := by
      intro H1
      unfold j_X12_findFacts_149
      rw [bnd_e, hnx]
    have d4s : ∀ H1 : Mem, (∀ b, b ≠ 15 → H1 b = G b) → (∀ j, j < 6 → j ≠ 3 → j ≠ 4 → H1 15 j = fctS B n k s lo st j) → H1 15 3 = nI (cntB (fun o => decide (o ≠ s) && decide (B 6 o = B 6 s) && (st o).2.2.2) (m + 1)) → H1 15 4 = nI (cntB (fun o => (decide (o + 1 = s) || decide (o = s + 1)) && !(st o).2.2.2) m) → m ≠ s → ∃ a', (∃ H : Mem, a' = (H, nI (m + 1)) ∧ (∀ b, b ≠ 15 → H b = G b) ∧ (∀ j, j < 6 → j ≠ 3 → j ≠ 4 → H 15 j = fctS B n k s lo st j) ∧ H 15 3 = nI (cntB (fun o => decide (o ≠ s) && decide (B 6 o = B 6 s) && (st o).2.2.2) (m + 1)) ∧ H 15 4 = nI (cntB (fun o => (decide (o + 1 = s) || decide (o = s + 1)) && !(st o).2.2.2) (m + 1))) ∧ j_X12_findFacts_112 (nI s) (nI k) rec H1 (nI m) = rec a' := by
      intro H1 f1 f2 f3 f4 hms
      have nadd : m + 1 = s ∨ m = s + 1 ∨ ¬ (m + 1 = s ∨ m = s + 1) := by omega
      have same : cntB (fun o => (decide (o + 1 = s) || decide (o = s + 1)) && !(st o).2.2.2) m = cntB (fun o => (decide (o + 1 = s) || decide (o = s + 1)) && !(st o).2.2.2) (m + 1) → ∃ a', (∃ H : Mem, a' = (H, nI (m + 1)) ∧ (∀ b, b ≠ 15 → H b = G b) ∧ (∀ j, j < 6 → j ≠ 3 → j ≠ 4 → H 15 j = fctS B n k s lo st j) ∧ H 15 3 = nI (cntB (fun o => decide (o ≠ s) && decide (B 6 o = B 6 s) && (st o).2.2.2) (m + 1)) ∧ H 15 4 = nI (cntB (fun o => (decide (o + 1 = s) || decide (o = s + 1)) && !(st o).2.2.2) (m + 1))) ∧ j_X12_findFacts_149 (nI s) (nI k) rec H1 (nI m) = rec a' := by
        intro q
        refine ⟨(H1, nI (m + 1)), ⟨H1, rfl, f1, f2, f3, by rw [f4, q]⟩, j149 H1⟩
      have j126 : (m + 1 = s ∨ m = s + 1) → ∃ a', (∃ H : Mem, a' = (H, nI (m + 1)) ∧ (∀ b, b ≠ 15 → H b = G b) ∧ (∀ j, j < 6 → j ≠ 3 → j ≠ 4 → H 15 j = fctS B n k s lo st j) ∧ H 15 3 = nI (cntB (fun o => decide (o ≠ s) && decide (B 6 o = B 6 s) && (st o).2.2.2) (m + 1)) ∧ H 15 4 = nI (cntB (fun o => (decide (o + 1 = s) || decide (o = s + 1)) && !(st o).2.2.2) (m + 1))) ∧ j_X12_findFacts_126 (nI s) (nI k) rec H1 (nI m) = rec a' := by
        intro hor
        have hd : (decide (m + 1 = s) || decide (m = s + 1)) = true := by
          rcases hor with h | h <;> simp [h]
        unfold j_X12_findFacts_126
        rcases h22 m hm with ⟨k0, bt⟩ | ⟨k0, bt⟩
        · rw [if_pos (show nI k ≤ (0 : Int32) by rw [k0]; decide)]
          exact same (cntB_f (by simp [bt])).symm
        · rw [if_neg (nI_nle k0 (by omega)), chk_t hbm, hcm, f1 22 (by decide), bt]
          cases hbb : (st m).2.2.2 with
          | true =>
            rw [if_neg (by decide)]
            exact same (cntB_f (by simp [hbb])).symm
          | false =>
            rw [if_pos (show b2 false = 0 from rfl), bnd_e, show (4 : Int32).toNatClampNeg = 4 from rfl]
            refine ⟨(_, nI (m + 1)), ⟨_, rfl, off_up f1, fun j hj h3 h4 => ?_, ?_, ?_⟩, j149 _⟩
            · rw [up2_an _ _ _ h4]
              exact f2 j hj h3 h4
            · rw [up2_an _ _ _ (by decide)]
              exact f3
            · rw [up2_aa, f4, nI_1, cntB_t (by show ((decide (m + 1 = s) || decide (m = s + 1)) && !(st m).2.2.2) = true; rw [hd, hbb]; rfl)]
      unfold j_X12_findFacts_112
      rcases nadd with h | h | h
      · have e : nI m = nI s - 1 := by
          rw [← h, nI_pred]
        rw [if_pos e]
        exact j126 (Or.inl h)
      · have e : nI m = nI s + 1 := by rw [h, nI_1]
        by_cases e' : nI m = nI s - 1
        · rw [if_pos e']
          exact j126 (Or.inr h)
        · rw [if_neg e', if_pos e]
          exact j126 (Or.inr h)
      · have n1 : ¬ nI m = nI s - 1 := by
          intro q
          by_cases hs0 : s = 0
          · rw [hs0] at q
            have q1 : (nI m).toInt = (nI 0 - 1 : Int32).toInt := by rw [q]
            rw [nI_toInt (by omega), nI_m1 0 (by decide)] at q1
            omega
          · have : nI s - 1 = nI (s - 1) := subI (b := 1) (by omega)
            rw [this] at q
            have := (nI_eq (by omega) (by omega)).mp q
            omega
        have n2 : ¬ nI m = nI s + 1 := by
          intro q
          rw [nI_1] at q
          have := (nI_eq (by omega) (by omega)).mp q
          omega
        rw [if_neg n1, if_neg n2]
        have d1 : decide (m + 1 = s) = false := decide_eq_false (fun q => h (Or.inl q))
        have d2 : decide (m = s + 1) = false := decide_eq_false (fun q => h (Or.inr q))
        exact same (cntB_f (by simp [d1, d2])).symm
    unfold q_X12_findFacts_58
    show ∃ a', _ ∧ (if H 0 7 ≤ nI m then _ else _) = rec a'
    rw [ne0, if_neg (nI_ge hm (by omega))]
    by_cases hms : m = s
    · subst hms
      rw [if_pos rfl, j149]
      refine ⟨(H, nI (m + 1)), ⟨H, rfl, e1, e2, ?_, ?_⟩, rfl⟩
      · rw [e3, cntB_f (by simp)]
      · rw [e4, cntB_f (by simp)]
    · rw [if_neg (fun q => hms ((nI_eq (by omega) (by omega)).mp q)), chk_t hbm, chk_t hb, hcm, hc, e1 6 (by decide), h6]
      have dne : decide (m ≠ s) = true := decide_eq_true hms
      by_cases hv : B 6 m = B 6 s
      rotate_left
      · rw [if_neg hv]
        refine d4s H e1 e2 ?_ e4 hms
        rw [e3, cntB_f (by simp [hv])]
      rw [if_pos hv]
      have j102 : (st m).2.2.2 = true → ∃ a', (∃ H : Mem, a' = (H, nI (m + 1)) ∧ (∀ b, b ≠ 15 → H b = G b) ∧ (∀ j, j < 6 → j ≠ 3 → j ≠ 4 → H 15 j = fctS B n k s lo st j) ∧ H 15 3 = nI (cntB (fun o => decide (o ≠ s) && decide (B 6 o = B 6 s) && (st o).2.2.2) (m + 1)) ∧ H 15 4 = nI (cntB (fun o => (decide (o + 1 = s) || decide (o = s + 1)) && !(st o).2.2.2) (m + 1))) ∧ j_X12_findFacts_102 (nI s) (nI k) rec H (nI m) = rec a' := by
        intro hbt
        unfold j_X12_findFacts_102
        rw [bnd_e, show (3 : Int32).toNatClampNeg = 3 from rfl]
        refine d4s _ (off_up e1) (fun j hj h3 h4 => ?_) ?_ ?_ hms
        · rw [up2_an _ _ _ h3]
          exact e2 j hj h3 h4
        · rw [up2_aa, e3, nI_1, cntB_t (by simp [hms, hv, hbt])]
        · rw [up2_an _ _ _ (by decide)]
          exact e4
      have skip : (st m).2.2.2 = false → ∃ a', (∃ H : Mem, a' = (H, nI (m + 1)) ∧ (∀ b, b ≠ 15 → H b = G b) ∧ (∀ j, j < 6 → j ≠ 3 → j ≠ 4 → H 15 j = fctS B n k s lo st j) ∧ H 15 3 = nI (cntB (fun o => decide (o ≠ s) && decide (B 6 o = B 6 s) && (st o).2.2.2) (m + 1)) ∧ H 15 4 = nI (cntB (fun o => (decide (o + 1 = s) || decide (o = s + 1)) && !(st o).2.2.2) (m + 1))) ∧ j_X12_findFacts_112 (nI s) (nI k) rec H (nI m) = rec a' := by
        intro hbf
        refine d4s H e1 e2 ?_ e4 hms
        rw [e3, cntB_f (by simp [hbf])]
      rcases h22 m hm with ⟨k0, bt⟩ | ⟨k0, bt⟩
      · rw [if_pos (show nI k = (0 : Int32) by rw [k0]; rfl)]
        exact j102 bt
      · rw [if_neg (nI_ne0 k0 (by omega)), chk_t hbm, e1 22 (by decide), bt]
        cases hbb : (st m).2.2.2 with
        | true =>
          rw [if_neg (by decide)]
          exact j102 hbb
        | false =>
          rw [if_pos (show b2 false = 0 from rfl)]
          exact skip hbb
  · rintro a ⟨H, rfl, e1, e2, e3, e4⟩ rec
    unfold q_X12_findFacts_58
    show ∃ Gz, (if H 0 7 ≤ nI n then _ else _) = some Gz ∧ _
    rw [e1 0 (by decide), h0, h7, if_pos (nI_le (Nat.le_refl _) (by omega))]
    refine ⟨H, rfl, e1, fun j hj => ?_⟩
    by_cases h3 : j = 3
    · subst h3; exact e3
    by_cases h4 : j = 4
    · subst h4; exact e4
    exact e2 j hj h3 h4
  · refine ⟨_, rfl, fun b hb => ?_, fun j hj h3 h4 => ?_, ?_, ?_⟩
    · rw [up2_n _ _ _ hb, up2_n _ _ _ hb, up2_n _ _ _ hb, up2_n _ _ _ hb, up2_n _ _ _ hb, up2_n _ _ _ hb]
    · rcases (show j = 0 ∨ j = 1 ∨ j = 2 ∨ j = 5 by omega) with rfl | rfl | rfl | rfl <;> rfl
    · rfl
    · rfl
def scR (b : Nat) : Prop := b = 14 ∨ b = 15 ∨ (18 ≤ b ∧ b ≤ 25)
theorem br12 {B : Mem} {ev : Nat → (Nat → Int32) → Int32} {way : Int32} {lo : Nat → Int32} {pl : Nat → Nat → Bool} {n km k s : Nat} {st : Nat → Sg} {G : Mem} (hC : CxR B ev way lo pl n km) (hk : k < km) (hs : s < n) (hB : ∀ b, ¬ scR b → G b = B b) (h18 : G 18 s = (st s).1) (h20 : G 20 s = (st s).2.2.1) (h22 : ∀ o, o < n → (k = 0 ∧ (st o).2.2.2 = true) ∨ (0 < k ∧ G 22 o = b2 (st o).2.2.2)) : ∃ Gz, f_X12_breathes G way (nI s) (nI k) = some (Gz, b2 (begS B ev way lo pl n k s st)) ∧ ∀ b, b ≠ 14 → b ≠ 15 → Gz b = G b := by
  obtain ⟨hn, h7, hvo, hlo, hbar, hev, hpl, htk, hkm⟩ := hC
  have nsc : ∀ {b}, (b < 14 ∨ b = 16 ∨ b = 17 ∨ 25 < b) → G b = B b := fun h => hB _ (by unfold scR; omega)
  unfold f_X12_breathes begS
  by_cases w1 : way = 1
  · rw [if_pos w1, if_pos w1, chk_t (inB_n (show k < 48 by have := hbar w1; omega) (by decide)), nI_clamp (by omega), nsc (by omega)]
    refine ⟨G, ?_, fun _ _ _ => rfl⟩
    by_cases hb : B 2 k = 1
    · rw [if_pos hb, decide_eq_true hb]; rfl
    · rw [if_neg hb, decide_eq_false hb]; rfl
  rw [if_neg w1, if_neg w1]
  by_cases w2 : f_X12_in way 2 5 = 0
  rotate_left
  · rw [if_neg w2, if_neg w2, hpl w2 s k hs hk G (nsc (by omega)) (nsc (by omega)) (nsc (by omega)), bndO_e]
    have : isB (b2 (pl s k)) = true := by cases pl s k <;> rfl
    rw [chk_t this]
    exact ⟨G, rfl, fun _ _ _ => rfl⟩
  have hb : inB (nI s) 10 = true := inB_n (by omega) (by decide)
  have hc : (nI s).toNatClampNeg = s := nI_clamp (by omega)
  rw [if_pos w2, if_pos w2, chk_t hb, chk_t hb, lo12 (hlo k hk) (nsc (by omega)) (nsc (by omega)), bndO_e, hc, cap12 G hb hc, bndO_e, h18, h20, nsc (b := 5) (by omega), nsc (b := 7) (by omega), nsc (b := 8) (by omega)]
  by_cases hcap : (st s).1 < capS (B 5 s) (B 7 s) (B 8 s) (st s).2.2.1 (lo k)
  rotate_left
  · rw [if_neg hcap, if_neg hcap]
    exact ⟨G, rfl, fun _ _ _ => rfl⟩
  rw [if_pos hcap, if_pos hcap]
  by_cases w6 : way = 6
  · rw [if_pos w6, if_pos w6]
    exact ⟨G, rfl, fun _ _ _ => rfl⟩
  rw [if_neg w6, if_neg w6]
  obtain ⟨G1, f1, o1, v1⟩ := ff12 (n := n) (k := k) (s := s) (st := st) hn h7 hs (by omega) (hlo k hk) (nsc (b := 0) (by omega)) (nsc (b := 1) (by omega)) (nsc (b := 6) (by omega)) h18 h20 h22
  rw [f1, bndO_e]
  have r1 : ∀ b, (b < 14 ∨ b = 16 ∨ b = 17 ∨ 25 < b) → G1 b = B b := fun b h => by rw [o1 b (by omega), nsc h]
  obtain ⟨G2, f2, o2⟩ := hev 0 (by decide) G1 (fctS B n k s lo st) (r1 0 (by omega)) (r1 11 (by omega)) (r1 12 (by omega)) (r1 13 (by omega)) v1
  rw [show f_X12_gives G1 0 = some (G2, ev 0 (fctS B n k s lo st)) from f2, bndP_e]
  by_cases m0 : ev 0 (fctS B n k s lo st) = 0
  rotate_left
  · rw [if_neg m0, if_neg m0]
    exact ⟨G2, rfl, fun b h1 h2 => by rw [o2 b h1, o1 b h2]⟩
  rw [if_pos m0, if_pos m0]
  have r2 : ∀ b, (b < 14 ∨ b = 16 ∨ b = 17 ∨ 25 < b) → G2 b = B b := fun b h => by rw [o2 b (by omega), r1 b h]
  obtain ⟨G3, f3, o3⟩ := hev 1 (by decide) G2 (fctS B n k s lo st) (r2 0 (by omega)) (r2 11 (by omega)) (r2 12 (by omega)) (r2 13 (by omega)) (fun j hj => by rw [o2 15 (by decide)]; exact v1 j hj)
  rw [show f_X12_gives G2 1 = some (G3, ev 1 (fctS B n k s lo st)) from f3, bndP_e]
  have fin : ∀ b, b ≠ 14 → b ≠ 15 → G3 b = G b := fun b h1 h2 => by rw [o3 b h1, o2 b h1, o1 b h2]
  by_cases m1 : ev 1 (fctS B n k s lo st) = 0
  · rw [if_pos m1, if_pos m1]
    exact ⟨G3, rfl, fin⟩
  rw [if_neg m1, if_neg m1, chk_t hb]
  have r3 : ∀ b, (b < 14 ∨ b = 16 ∨ b = 17 ∨ 25 < b) → G3 b = B b := fun b h => by rw [o3 b (by omega), r2 b h]
  obtain ⟨v, hv, hve⟩ := hvo s hs
  have g15 : ∀ j, j < 6 → G3 15 j = fctS B n k s lo st j := fun j hj => by rw [o3 15 (by decide), o2 15 (by decide)]; exact v1 j hj
  rw [r3 6 (by omega), hve, chk_t (inB_n hv (by decide)), r3 4 (by omega), show (3 : Int32).toNatClampNeg = 3 from rfl, show (4 : Int32).toNatClampNeg = 4 from rfl, g15 3 (by decide), g15 4 (by decide)]
  by_cases l3 : fctS B n k s lo st 3 < B 4 (nI v).toNatClampNeg
  · rw [if_pos l3, decide_eq_false (Int32.not_le.mpr l3)]
    exact ⟨G3, rfl, fin⟩
  rw [if_neg l3, decide_eq_true (Int32.not_lt.mp l3)]
  by_cases l4 : fctS B n k s lo st 4 = 0
  · rw [if_pos l4, decide_eq_true l4]
    exact ⟨G3, rfl, fin⟩
  · rw [if_neg l4, decide_eq_false l4]
    exact ⟨G3, rfl, fin⟩
/-- what the rows of a run hold ahead of step k -/
def RMem (B : Mem) (n k : Nat) (st : Nat → Sg) (G : Mem) : Prop := (∀ b, ¬ scR b → G b = B b) ∧ ∀ i, i < n → G 18 i = (st i).1 ∧ G 19 i = (st i).2.1 ∧ G 20 i = (st i).2.2.1 ∧ ((k = 0 ∧ (st i).2.2.2 = true) ∨ (0 < k ∧ G 21 i = b2 (st i).2.2.2))
def lsR (B : Mem) (n ls lk : Nat) : Prop := (B 0 36 = nI ls ∧ B 0 37 = nI lk ∧ ls < 10 ∧ lk < 48) ∨ (B 0 36 = -1 ∧ n ≤ ls)
theorem nIm1 {k : Nat} (h : k < 2 ^ 31) : ¬ nI k = -1 := by
  intro q
  have h1 : (nI k).toInt = (-1 : Int32).toInt := by rw [q]
  rw [nI_toInt h, show (-1 : Int32).toInt = -1 from rfl] at h1
  omega
theorem go12 {B : Mem} {ev : Nat → (Nat → Int32) → Int32} {way : Int32} {lo : Nat → Int32} {pl : Nat → Nat → Bool} {n km k ls lk : Nat} {st : Nat → Sg} {G : Mem} (hC : CxR B ev way lo pl n km) (hk : k < km) (hls : lsR B n ls lk) (hG : RMem B n k st G) : ∃ Gz, f_X12_go G way (nI k) = some Gz ∧ RMem B n (k + 1) (stepS B ev way lo pl n ls lk k st) Gz ∧ ∀ b, 22 < b → Gz b = G b := by
  obtain ⟨hn, h7, hvo, hlo, hbar, hev, hpl, htk, hkm⟩ := id hC
  obtain ⟨hB, hst⟩ := hG
  obtain ⟨nst, hnst⟩ : ∃ x, x = stepS B ev way lo pl n ls lk k st := ⟨_, rfl⟩
  rw [← hnst]
  have hns : ∀ i, nst i = oneS (decide (i = ls ∧ lk ≤ k)) (begS B ev way lo pl n k i st) (tkS (B 5 i) (B 9 i) (st i).2.2.1) (st i) := fun i => by rw [hnst]; rfl
  -- the second loop
  have loop2 : ∀ H0 : Mem, (∀ b, ¬ scR b → H0 b = B b) → (∀ b, 22 < b → H0 b = G b) → (∀ o, o < n → (k = 0 ∧ (st o).2.2.2 = true) ∨ (0 < k ∧ H0 22 o = b2 (st o).2.2.2)) → (∀ i, i < n → H0 18 i = (st i).1 ∧ H0 19 i = (st i).2.1 ∧ H0 20 i = (st i).2.2.1) → ∃ Gz, iter (q_X12_go_30 way (nI k)) fuel (H0, 0) = some Gz ∧ RMem B n (k + 1) nst Gz ∧ ∀ b, 22 < b → Gz b = G b := by
    intro H0 a1 a2 a3 a4
    refine iter_fuel (q_X12_go_30 way (nI k)) (fun s a => ∃ H : Mem, a = (H, nI s) ∧ (∀ b, ¬ scR b → H b = B b) ∧ (∀ b, 22 < b → H b = G b) ∧ (∀ o, o < n → (k = 0 ∧ (st o).2.2.2 = true) ∨ (0 < k ∧ H 22 o = b2 (st o).2.2.2)) ∧ (∀ i, i < n → s ≤ i → H 18 i = (st i).1 ∧ H 19 i = (st i).2.1 ∧ H 20 i = (st i).2.2.1) ∧ ∀ i, i < s → H 18 i = (nst i).1 ∧ H 19 i = (nst i).2.1 ∧ H 20 i = (nst i).2.2.1 ∧ H 21 i = b2 (nst i).2.2.2) (fun r => ∃ Gz, r = some Gz ∧ RMem B n (k + 1) nst Gz ∧ ∀ b, 22 < b → Gz b = G b) n (by omega) ?_ ?_ ⟨H0, rfl, a1, a2, a3, fun i hi _ => a4 i hi, fun i hi => by omega⟩
    · rintro s a hs ⟨H, rfl, b1, b2', b3, b4, b5⟩ rec
      left
      have hb : inB (nI s) 10 = true := inB_n (by omega) (by decide)
      have hc : (nI s).toNatClampNeg = s := nI_clamp (by omega)
      have hnx : nI s + 1 = nI (s + 1) := nI_1 s
      obtain ⟨c18, c19, c20⟩ := b4 s hs (Nat.le_refl _)
      have b0 : H 0 = B 0 := b1 0 (by unfold scR; omega)
      -- one singer's new rows
      have put : ∀ (H1 : Mem), (∀ b, b ≠ 14 → b ≠ 15 → (b < 18 ∨ 21 < b) → H1 b = H b) → (∀ i, i ≠ s → H1 18 i = H 18 i ∧ H1 19 i = H 19 i ∧ H1 20 i = H 20 i ∧ H1 21 i = H 21 i) → H1 18 s = (nst s).1 → H1 19 s = (nst s).2.1 → H1 20 s = (nst s).2.2.1 → H1 21 s = b2 (nst s).2.2.2 → ∃ H2 : Mem, (H1, nI (s + 1)) = (H2, nI (s + 1)) ∧ (∀ b, ¬ scR b → H2 b = B b) ∧ (∀ b, 22 < b → H2 b = G b) ∧ (∀ o, o < n → (k = 0 ∧ (st o).2.2.2 = true) ∨ (0 < k ∧ H2 22 o = b2 (st o).2.2.2)) ∧ (∀ i, i < n → s + 1 ≤ i → H2 18 i = (st i).1 ∧ H2 19 i = (st i).2.1 ∧ H2 20 i = (st i).2.2.1) ∧ ∀ i, i < s + 1 → H2 18 i = (nst i).1 ∧ H2 19 i = (nst i).2.1 ∧ H2 20 i = (nst i).2.2.1 ∧ H2 21 i = b2 (nst i).2.2.2 := by
        intro H1 e1 e2 e3 e4 e5 e6
        refine ⟨H1, rfl, fun b hb => ?_, fun b hb => by rw [e1 b (by omega) (by omega) (by omega)]; exact b2' b hb, fun o ho => by rw [e1 22 (by decide) (by decide) (by omega)]; exact b3 o ho, fun i hi hsi => ?_, fun i hi => ?_⟩
        · rw [e1 b (by unfold scR at hb; omega) (by unfold scR at hb; omega) (by unfold scR at hb; omega)]
          exact b1 b hb
        · obtain ⟨q1, q2, q3, -⟩ := e2 i (by omega)
          rw [q1, q2, q3]
          exact b4 i hi (by omega)
        · by_cases his : i = s
          · subst his
            exact ⟨e3, e4, e5, e6⟩
          · obtain ⟨q1, q2, q3, q4⟩ := e2 i his
            rw [q1, q2, q3, q4]
            exact b5 i (by omega)
      unfold q_X12_go_30
      show ∃ a', _ ∧ (if H 0 7 ≤ nI s then _ else _) = rec a'
      rw [b0, h7, if_neg (nI_ge hs (by omega))]
      -- the end of a step
      have j124 : ∀ (H1 : Mem) (s1 : Sg), (∀ b, b ≠ 14 → b ≠ 15 → (b < 18 ∨ 21 < b) → H1 b = H b) → (∀ i, i ≠ s → H1 18 i = H 18 i ∧ H1 19 i = H 19 i ∧ H1 20 i = H 20 i ∧ H1 21 i = H 21 i) → H1 20 s = (nst s).2.2.1 → H1 18 s = (st s).1 → ((H1 19 s = 0 ∧ nst s = ((st s).1 + 1, 0, (nst s).2.2.1, true)) ∨ (¬ H1 19 s = 0 ∧ nst s = (0, H1 19 s - 1, (nst s).2.2.1, false))) → ∃ a', (∃ H2 : Mem, a' = (H2, nI (s + 1)) ∧ (∀ b, ¬ scR b → H2 b = B b) ∧ (∀ b, 22 < b → H2 b = G b) ∧ (∀ o, o < n → (k = 0 ∧ (st o).2.2.2 = true) ∨ (0 < k ∧ H2 22 o = b2 (st o).2.2.2)) ∧ (∀ i, i < n → s + 1 ≤ i → H2 18 i = (st i).1 ∧ H2 19 i = (st i).2.1 ∧ H2 20 i = (st i).2.2.1) ∧ ∀ i, i < s + 1 → H2 18 i = (nst i).1 ∧ H2 19 i = (nst i).2.1 ∧ H2 20 i = (nst i).2.2.1 ∧ H2 21 i = b2 (nst i).2.2.2) ∧ j_X12_go_124 way (nI k) rec H1 (nI s) = rec a' := by
        intro H1 _ e1 e2 e20 e18 hcase
        unfold j_X12_go_124
        simp only [chk_t hb, hc]
        rcases hcase with ⟨z0, zn⟩ | ⟨z0, zn⟩
        · rw [if_pos z0, bnd_e, show vp_nar .boolean 1 = 1 from rfl, if_neg (by rw [up2_aa]; decide), bnd_e, bnd_e, hnx]
          have n1 : (nst s).1 = (st s).1 + 1 := by rw [zn]
          have n2 : (nst s).2.1 = 0 := by rw [zn]
          have n4 : (nst s).2.2.2 = true := by rw [zn]
          refine ⟨_, put _ (fun b h1 h2 h3 => ?_) (fun i hi => ?_) ?_ ?_ ?_ ?_, rfl⟩
          · rw [up2_n _ _ _ (by omega), up2_n _ _ _ (by omega)]
            exact e1 b h1 h2 h3
          · rw [up2_an _ _ _ hi, up2_o (Or.inl (by decide)), up2_n _ _ _ (by decide), up2_o (b := 19) (Or.inl (by decide)), up2_n _ _ _ (by decide), up2_o (b := 20) (Or.inl (by decide)), up2_o (b := 21) (Or.inl (by decide)), up2_an _ _ _ hi]
            exact e2 i hi
          · rw [up2_aa, up2_o (Or.inl (by decide)), e18, n1]
          · rw [up2_o (Or.inl (by decide)), up2_o (Or.inl (by decide)), z0, n2]
          · rw [up2_o (Or.inl (by decide)), up2_o (Or.inl (by decide)), e20]
          · rw [up2_o (Or.inl (by decide)), up2_aa, n4]
            rfl
        · rw [if_neg z0, bnd_e, show vp_nar .boolean 0 = 0 from rfl, if_pos (by rw [up2_aa]), bnd_e, bnd_e, bnd_e, hnx]
          have n1 : (nst s).1 = 0 := by rw [zn]
          have n2 : (nst s).2.1 = H1 19 s - 1 := by rw [zn]
          have n4 : (nst s).2.2.2 = false := by rw [zn]
          refine ⟨_, put _ (fun b h1 h2 h3 => ?_) (fun i hi => ?_) ?_ ?_ ?_ ?_, rfl⟩
          · rw [up2_n _ _ _ (by omega), up2_n _ _ _ (by omega), up2_n _ _ _ (by omega)]
            exact e1 b h1 h2 h3
          · refine ⟨?_, ?_, ?_, ?_⟩
            · rw [up2_an _ _ _ hi, up2_o (Or.inl (by decide)), up2_o (Or.inl (by decide))]; exact (e2 i hi).1
            · rw [up2_o (Or.inl (by decide)), up2_an _ _ _ hi, up2_o (Or.inl (by decide))]; exact (e2 i hi).2.1
            · rw [up2_o (Or.inl (by decide)), up2_o (Or.inl (by decide)), up2_o (Or.inl (by decide))]; exact (e2 i hi).2.2.1
            · rw [up2_o (Or.inl (by decide)), up2_o (Or.inl (by decide)), up2_an _ _ _ hi]; exact (e2 i hi).2.2.2
          · rw [up2_aa, n1]
          · rw [up2_o (Or.inl (by decide)), up2_aa, up2_o (Or.inl (by decide)), n2]
          · rw [up2_o (Or.inl (by decide)), up2_o (Or.inl (by decide)), up2_o (Or.inl (by decide)), e20]
          · rw [up2_o (Or.inl (by decide)), up2_o (Or.inl (by decide)), up2_aa, n4]
            rfl
      have sameH : ∀ b, b ≠ 14 → b ≠ 15 → (b < 18 ∨ 21 < b) → H b = H b := fun _ _ _ _ => rfl
      have sameI : ∀ i, i ≠ s → H 18 i = H 18 i ∧ H 19 i = H 19 i ∧ H 20 i = H 20 i ∧ H 21 i = H 21 i := fun _ _ => ⟨rfl, rfl, rfl, rfl⟩
      -- a singer who is there
      have alive : decide (s = ls ∧ lk ≤ k) = false → ∃ a', (∃ H2 : Mem, a' = (H2, nI (s + 1)) ∧ (∀ b, ¬ scR b → H2 b = B b) ∧ (∀ b, 22 < b → H2 b = G b) ∧ (∀ o, o < n → (k = 0 ∧ (st o).2.2.2 = true) ∨ (0 < k ∧ H2 22 o = b2 (st o).2.2.2)) ∧ (∀ i, i < n → s + 1 ≤ i → H2 18 i = (st i).1 ∧ H2 19 i = (st i).2.1 ∧ H2 20 i = (st i).2.2.1) ∧ ∀ i, i < s + 1 → H2 18 i = (nst i).1 ∧ H2 19 i = (nst i).2.1 ∧ H2 20 i = (nst i).2.2.1 ∧ H2 21 i = b2 (nst i).2.2.2) ∧ j_X12_go_78 way (nI k) rec H (nI s) = rec a' := by
        intro hal
        have hn1 := hns s
        rw [hal] at hn1
        unfold oneS at hn1
        rw [if_neg (by decide)] at hn1
        unfold j_X12_go_78
        rw [chk_t hb, hc, c19]
        by_cases z0 : (st s).2.1 = 0
        rotate_left
        · rw [if_neg z0] at hn1 ⊢
          refine j124 H (st s) sameH sameI ?_ c18 (Or.inr ⟨by rw [c19]; exact z0, ?_⟩)
          · rw [c20, hn1]
          · rw [c19, hn1]
        rw [if_pos z0] at hn1 ⊢
        obtain ⟨G1, g1, g2⟩ := br12 (st := st) hC hk hs b1 c18 c20 b3
        rw [g1, bndP_e]
        cases hbg : begS B ev way lo pl n k s st with
        | false =>
          rw [hbg, if_neg (by decide)] at hn1
          rw [if_pos (show b2 false = 0 from rfl)]
          refine j124 G1 (st s) (fun b h1 h2 _ => g2 b h1 h2) (fun i _ => ⟨by rw [g2 18 (by decide) (by decide)], by rw [g2 19 (by decide) (by decide)], by rw [g2 20 (by decide) (by decide)], by rw [g2 21 (by decide) (by decide)]⟩) ?_ ?_ (Or.inl ⟨?_, ?_⟩)
          · rw [g2 20 (by decide) (by decide), c20, hn1]
          · rw [g2 18 (by decide) (by decide), c18]
          · rw [g2 19 (by decide) (by decide), c19, z0]
          · rw [hn1]
        | true =>
          rw [hbg, if_pos rfl] at hn1
          have r5 : G1 5 = B 5 := by rw [g2 5 (by decide) (by decide)]; exact b1 5 (by unfold scR; omega)
          have r9 : G1 9 = B 9 := by rw [g2 9 (by decide) (by decide)]; exact b1 9 (by unfold scR; omega)
          have r20 : G1 20 s = (st s).2.2.1 := by rw [g2 20 (by decide) (by decide), c20]
          rw [if_neg (show ¬ b2 true = 0 by decide), chk_t hb, r20, tk12 G1 hb hc, bndO_e, chk_t hb, bnd_e, chk_t hb, chk_t hb, bnd_e, r5, r9, up2_o (b := 20) (Or.inl (by decide)), r20]
          obtain ⟨w, w1, w2, w3⟩ := tk_rg (htk s hs).1 (htk s hs).2 (o := (st s).2.2.1)
          rw [w3] at hn1 ⊢
          refine j124 _ (st s) (fun b h1 h2 h3 => ?_) (fun i hi => ⟨?_, ?_, ?_, ?_⟩) ?_ ?_ (Or.inr ⟨?_, ?_⟩)
          · rw [up2_n _ _ _ (by omega), up2_n _ _ _ (by omega)]
            exact g2 b h1 h2
          · rw [up2_o (Or.inl (by decide)), up2_o (Or.inl (by decide)), g2 18 (by decide) (by decide)]
          · rw [up2_o (Or.inl (by decide)), up2_an _ _ _ hi, g2 19 (by decide) (by decide)]
          · rw [up2_an _ _ _ hi, up2_o (Or.inl (by decide)), g2 20 (by decide) (by decide)]
          · rw [up2_o (Or.inl (by decide)), up2_o (Or.inl (by decide)), g2 21 (by decide) (by decide)]
          · rw [up2_aa, hn1]
          · rw [up2_o (Or.inl (by decide)), up2_o (Or.inl (by decide)), g2 18 (by decide) (by decide), c18]
          · rw [up2_o (Or.inl (by decide)), up2_aa]
            exact nI_ne0 (by omega) (by omega)
          · rw [up2_o (Or.inl (by decide)), up2_aa, hn1]
      rcases hls with ⟨l1, l2, l3, l4⟩ | ⟨l1, l2⟩
      · rw [l1]
        by_cases hsl : s = ls
        · subst hsl
          rw [if_pos rfl, l2]
          by_cases hkl : k < lk
          · rw [if_pos (nI_lt hkl (by omega))]
            exact alive (decide_eq_false (fun q => by omega))
          · rw [if_neg (nI_nlt (by omega) (by omega))]
            have hn1 := hns s
            rw [decide_eq_true (⟨rfl, by omega⟩ : s = s ∧ lk ≤ k)] at hn1
            unfold oneS at hn1
            rw [if_pos rfl] at hn1
            simp only [chk_t hb, hc]
            rw [bnd_e, bnd_e, bnd_e, bnd_e, hnx, show vp_nar .boolean 0 = 0 from rfl]
            refine ⟨_, put _ (fun b h1 h2 h3 => ?_) (fun i hi => ⟨?_, ?_, ?_, ?_⟩) ?_ ?_ ?_ ?_, rfl⟩
            · rw [up2_n _ _ _ (by omega), up2_n _ _ _ (by omega), up2_n _ _ _ (by omega)]
            · rw [up2_o (Or.inl (by decide)), up2_an _ _ _ hi, up2_o (Or.inl (by decide))]
            · rw [up2_an _ _ _ hi, up2_o (Or.inl (by decide)), up2_o (Or.inl (by decide))]
            · rw [up2_o (Or.inl (by decide)), up2_o (Or.inl (by decide)), up2_o (Or.inl (by decide))]
            · rw [up2_o (Or.inl (by decide)), up2_o (Or.inl (by decide)), up2_an _ _ _ hi]
            · rw [up2_o (Or.inl (by decide)), up2_aa, hn1]
            · rw [up2_aa, hn1]
            · rw [up2_o (Or.inl (by decide)), up2_o (Or.inl (by decide)), up2_o (Or.inl (by decide)), c20, hn1]
            · rw [up2_o (Or.inl (by decide)), up2_o (Or.inl (by decide)), up2_aa, hn1]
              rfl
        · rw [if_neg (fun q => hsl ((nI_eq (by omega) (by omega)).mp q))]
          exact alive (decide_eq_false (fun q => hsl q.1))
      · rw [l1, if_neg (nIm1 (by omega))]
        exact alive (decide_eq_false (fun q => by omega))
    · rintro a ⟨H, rfl, b1, b2', b3, b4, b5⟩ rec
      unfold q_X12_go_30
      show ∃ Gz, (if H 0 7 ≤ nI n then _ else _) = some Gz ∧ _
      rw [b1 0 (by unfold scR; omega), h7, if_pos (nI_le (Nat.le_refl _) (by omega))]
      refine ⟨H, rfl, ⟨b1, fun i hi => ?_⟩, b2'⟩
      obtain ⟨q1, q2, q3, q4⟩ := b5 i hi
      exact ⟨q1, q2, q3, Or.inr ⟨by omega, q4⟩⟩
  -- the first loop
  unfold f_X12_go
  refine iter_fuel (q_X12_go_2 way (nI k)) (fun s a => a = (rpR G 22 s (fun i => vp_nar .boolean (G 21 i)), nI s)) (fun r => ∃ Gz, r = some Gz ∧ RMem B n (k + 1) nst Gz ∧ ∀ b, 22 < b → Gz b = G b) n (by omega) ?_ ?_ (by rw [rpR_0]; rfl)
  · rintro s a hs rfl rec
    refine Or.inl ⟨(rpR G 22 (s + 1) (fun i => vp_nar .boolean (G 21 i)), nI (s + 1)), rfl, ?_⟩
    unfold q_X12_go_2
    show (if rpR G 22 s (fun i => vp_nar .boolean (G 21 i)) 0 7 ≤ nI s then _ else _) = _
    have hb : inB (nI s) 10 = true := inB_n (by omega) (by decide)
    rw [rpR_n (q := 0) (by decide), hB 0 (by unfold scR; omega), h7, if_neg (nI_ge hs (by omega)), chk_t hb, chk_t hb, bnd_e, bnd_e, nI_clamp (by omega), nI_1, rpR_n (q := 21) (by decide)]
    have := rpR_s (G := G) (b := 22) (k := s) (f := fun i => vp_nar .boolean (G 21 i))
    rw [this]
  · rintro a rfl rec
    unfold q_X12_go_2
    show ∃ Gz, (if rpR G 22 n (fun i => vp_nar .boolean (G 21 i)) 0 7 ≤ nI n then _ else _) = some Gz ∧ _
    rw [rpR_n (q := 0) (by decide), hB 0 (by unfold scR; omega), h7, if_pos (nI_le (Nat.le_refl _) (by omega))]
    refine loop2 _ (fun b hb => by rw [rpR_n (by unfold scR at hb; omega)]; exact hB b hb) (fun b hb => by rw [rpR_n (by omega)]) (fun o ho => ?_) (fun i hi => ?_)
    · rcases (hst o ho).2.2.2 with h | ⟨h1, h2⟩
      · exact Or.inl h
      · refine Or.inr ⟨h1, ?_⟩
        rw [rpR_lt ho, h2, b2_nar]
    · rw [rpR_n (by decide), rpR_n (by decide), rpR_n (by decide)]
      exact ⟨(hst i hi).1, (hst i hi).2.1, (hst i hi).2.2.1⟩
