-- the readers: signs, blanks, words, numbers
def blk (x : Int32) : Bool := decide (x = 32) || decide (x = 10)
noncomputable def let8 (x : Int32) : Bool := decide (¬ f_X12_isLetter x = 0)
noncomputable def dig8 (x : Int32) : Bool := decide (¬ f_X12_isDigit x = 0)
def sgn8 (x : Int32) : Bool := decide (x = 40) || decide (x = 41) || decide (x = 59) || decide (x = 43) || decide (x = 45) || decide (x = 42) || decide (x = 60) || decide (x = 61)
noncomputable def chF (x : Int32) : Bool := (decide (x &&& 255 = 32) == decide (x = 32)) && (decide (x &&& 255 = 10) == decide (x = 10)) && (let8 x == (decide (¬ x &&& 255 < 97) && decide (¬ 122 < x &&& 255))) && (dig8 x == (decide (¬ x &&& 255 < 48) && decide (¬ 57 < x &&& 255))) && (! (let8 x || dig8 x || sgn8 x) || decide (x &&& 255 = x)) && (match f_J0_indexOf_0f7a4 2 (x &&& 255) with | some v => decide (¬ v < 0) == sgn8 x | none => false) && (! dig8 x || (decide (48 ≤ x) && decide (x ≤ 57)))
theorem ch_all : ∀ k, k < 256 → chF (Int8.ofBitVec (BitVec.ofNat 8 k)).toInt32 = true := by decide +kernel
theorem ch_at {x : Int32} (h : x.toInt8.toInt32 = x) : chF x = true := by
  have h1 := ch_all x.toInt8.toBitVec.toNat x.toInt8.toBitVec.isLt
  rw [BitVec.ofNat_toNat, BitVec.setWidth_eq, show Int8.ofBitVec x.toInt8.toBitVec = x.toInt8 from rfl, h] at h1
  exact h1
theorem ch_s {x : Int32} (h : x.toInt8.toInt32 = x) : (x &&& 255 = 32 ↔ x = 32) ∧ (x &&& 255 = 10 ↔ x = 10) ∧ (let8 x = true ↔ (¬ x &&& 255 < 97 ∧ ¬ 122 < x &&& 255)) ∧ (dig8 x = true ↔ (¬ x &&& 255 < 48 ∧ ¬ 57 < x &&& 255)) ∧ ((let8 x = true ∨ dig8 x = true ∨ sgn8 x = true) → x &&& 255 = x) ∧ (∃ v, f_J0_indexOf_0f7a4 2 (x &&& 255) = some v ∧ (¬ v < 0 ↔ sgn8 x = true)) ∧ (dig8 x = true → 48 ≤ x ∧ x ≤ 57) := by
  have h1 := ch_at h
  unfold chF at h1
  simp only [Bool.and_eq_true] at h1
  obtain ⟨⟨⟨⟨⟨⟨a1, a2⟩, a3⟩, a4⟩, a5⟩, a6⟩, a7⟩ := h1
  refine ⟨?_, ?_, ?_, ?_, ?_, ?_, ?_⟩
  · have := eq_of_beq a1
    exact decide_eq_decide.mp this
  · exact decide_eq_decide.mp (eq_of_beq a2)
  · rw [eq_of_beq a3, Bool.and_eq_true, decide_eq_true_iff, decide_eq_true_iff]
  · rw [eq_of_beq a4, Bool.and_eq_true, decide_eq_true_iff, decide_eq_true_iff]
  · intro hh
    rw [Bool.or_eq_true] at a5
    rcases a5 with a5 | a5
    · rcases hh with hh | hh | hh <;> rw [hh] at a5 <;> simp at a5
    · exact of_decide_eq_true a5
  · cases hv : f_J0_indexOf_0f7a4 2 (x &&& 255) with
    | none => rw [hv] at a6; exact absurd a6 (by simp)
    | some v =>
      rw [hv] at a6
      refine ⟨v, rfl, ?_⟩
      have := eq_of_beq a6
      rw [← this, decide_eq_true_iff]
  · intro hd
    rw [hd] at a7
    simpa using a7
/-- how far a run of signs goes -/
theorem runTo (P : Nat → Bool) (sz : Nat) : ∀ d p, p + d = sz → ∃ r, p ≤ r ∧ r ≤ sz ∧ (∀ j, p ≤ j → j < r → P j = true) ∧ (r < sz → P r = false) := by
  intro d
  induction d with
  | zero => intro p h; exact ⟨p, Nat.le_refl _, by omega, fun j h1 h2 => by omega, fun h => by omega⟩
  | succ d ih =>
    intro p h
    cases hp : P p with
    | false => exact ⟨p, Nat.le_refl _, by omega, fun j h1 h2 => by omega, fun _ => hp⟩
    | true =>
      obtain ⟨r, h1, h2, h3, h4⟩ := ih (p + 1) (by omega)
      exact ⟨r, by omega, h2, fun j h5 h6 => if hj : j = p then by rw [hj]; exact hp else h3 j (by omega) h6, h4⟩
def Tp (T : Nat → Int32) (sz : Nat) (G G' : Mem) : Prop := sz ≤ 160 ∧ G 114 2 = nI sz ∧ G' 0 14 = nI sz ∧ (∀ j, j < sz → G 115 j = T j &&& 255 ∧ G' 10 j = T j ∧ (T j).toInt8.toInt32 = T j) ∧ (∀ j, j < 61 → G' 16 j = lettersC.getD j 0) ∧ ∀ j, j < 12 → G' 17 j = meantC.getD j 0
theorem skip11 {T : Nat → Int32} {sz q p : Nat} {G G' : Mem} (h : Tp T sz G G') (hqp : q ≤ p) (hp : p ≤ sz) (hb : ∀ j, q ≤ j → j < p → blk (T j) = true) (he : p < sz → blk (T p) = false) (h3 : G 114 3 = nI q) : f_X5_advance G = j_X5_advance_53 G (nI p) := by
  obtain ⟨h160, a1, a2, a3, -, -⟩ := h
  unfold f_X5_advance
  rw [bnd_e, h3]
  refine iter_fuel q_X5_advance_7 (fun k a => a = (G, nI (q + k), nI k)) (fun r => r = j_X5_advance_53 G (nI p)) (p - q) (by omega) ?_ ?_ rfl
  · rintro k a hk rfl rec
    left
    refine ⟨(G, nI (q + (k + 1)), nI (k + 1)), rfl, ?_⟩
    unfold q_X5_advance_7
    show (if 160 ≤ nI k then _ else if G 114 2 ≤ nI (q + k) then _ else _) = _
    have hbk := hb (q + k) (by omega) (by omega)
    obtain ⟨c1, c2, -⟩ := ch_s (a3 (q + k) (by omega)).2.2
    rw [if_neg (show ¬ (160 : Int32) ≤ nI k from nI_ge (b := 160) (by omega) (by decide)), a1, if_neg (nI_ge (by omega) (by omega)), chk_t (inB_n (by omega) (by decide)), nI_clamp (by omega), (a3 (q + k) (by omega)).1]
    by_cases g : T (q + k) = 32
    · rw [if_pos (c1.mpr g), bnd_e, bnd_e, nI_1, nI_1]
      rfl
    · have g10 : T (q + k) = 10 := by
        unfold blk at hbk
        rw [decide_eq_false g, Bool.false_or] at hbk
        exact of_decide_eq_true hbk
      rw [if_neg (fun z => g (c1.mp z)), chk_t (inB_n (by omega) (by decide)), if_pos (c2.mpr g10), bnd_e, bnd_e, nI_1, nI_1]
      rfl
  · rintro a rfl rec
    have e : q + (p - q) = p := by omega
    rw [e]
    unfold q_X5_advance_7
    show (if 160 ≤ nI (p - q) then _ else if G 114 2 ≤ nI p then _ else _) = _
    split
    · rfl
    rw [a1]
    by_cases hps : p < sz
    · have hbk := he hps
      unfold blk at hbk
      rw [Bool.or_eq_false_iff] at hbk
      obtain ⟨c1, c2, -⟩ := ch_s (a3 p hps).2.2
      rw [if_neg (nI_ge hps (by omega)), chk_t (inB_n (by omega) (by decide)), chk_t (inB_n (by omega) (by decide)), nI_clamp (by omega), (a3 p hps).1, if_neg (fun z => of_decide_eq_false hbk.1 (c1.mp z)), if_neg (fun z => of_decide_eq_false hbk.2 (c2.mp z))]
    · rw [if_pos (nI_le (by omega) (by omega))]
theorem skip12 {T : Nat → Int32} {sz q p : Nat} {G G' : Mem} (h : Tp T sz G G') (hqp : q ≤ p) (hp : p ≤ sz) (hb : ∀ j, q ≤ j → j < p → blk (T j) = true) (he : p < sz → blk (T p) = false) (h3 : G' 0 24 = nI q) : f_X12_next G' = j_X12_next_60 (up2 G' 0 23 (nI p)) := by
  obtain ⟨h160, a1, a2, a3, -, -⟩ := h
  unfold f_X12_next
  rw [bnd_e, h3]
  refine iter_fuel q_X12_next_8 (fun k a => a = up2 G' 0 23 (nI (q + k))) (fun r => r = j_X12_next_60 (up2 G' 0 23 (nI p))) (p - q) (by omega) ?_ ?_ rfl
  · rintro k a hk rfl rec
    left
    refine ⟨up2 G' 0 23 (nI (q + (k + 1))), rfl, ?_⟩
    unfold q_X12_next_8
    have hbk := hb (q + k) (by omega) (by omega)
    rw [up2_aa, up2_o (by omega), up2_n _ _ _ (by decide), a2, if_neg (nI_ge (by omega) (by omega)), chk_t (inB_n (by omega) (by decide)), nI_clamp (by omega), (a3 (q + k) (by omega)).2.1]
    by_cases g : T (q + k) = 32
    · rw [if_pos g, bnd_e, nI_1, up2_twice]
      rfl
    · have g10 : T (q + k) = 10 := by
        unfold blk at hbk
        rw [decide_eq_false g, Bool.false_or] at hbk
        exact of_decide_eq_true hbk
      rw [if_neg g, chk_t (inB_n (by omega) (by decide)), if_pos g10, bnd_e, nI_1, up2_twice]
      rfl
  · rintro a rfl rec
    have e : q + (p - q) = p := by omega
    rw [e]
    unfold q_X12_next_8
    rw [up2_aa, up2_o (by omega), up2_n _ _ _ (by decide), a2]
    by_cases hps : p < sz
    · have hbk := he hps
      unfold blk at hbk
      rw [Bool.or_eq_false_iff] at hbk
      rw [if_neg (nI_ge hps (by omega)), chk_t (inB_n (by omega) (by decide)), chk_t (inB_n (by omega) (by decide)), nI_clamp (by omega), (a3 p hps).2.1, if_neg (of_decide_eq_false hbk.1), if_neg (of_decide_eq_false hbk.2)]
    · rw [if_pos (nI_le (by omega) (by omega))]
