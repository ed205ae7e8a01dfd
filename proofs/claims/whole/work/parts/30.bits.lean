-- masks of at most ten bits
def msk (b : Nat → Bool) : Nat → Int32
  | 0 => 0
  | k + 1 => if b k then msk b k ||| (1 <<< (nI k &&& 31)) else msk b k
def cntB (d : Nat → Bool) : Nat → Nat
  | 0 => 0
  | k + 1 => cntB d k + (if d k then 1 else 0)
theorem cntB_le (d : Nat → Bool) (n : Nat) : cntB d n ≤ n := by
  induction n with
  | zero => exact Nat.le_refl _
  | succ n ih => unfold cntB; split <;> omega
theorem cntB_congr {d e : Nat → Bool} {n : Nat} (h : ∀ i, i < n → d i = e i) : cntB d n = cntB e n := by
  induction n with
  | zero => rfl
  | succ n ih =>
    unfold cntB
    rw [ih (fun i hi => h i (by omega)), h n (by omega)]
theorem cntB_ext {d e : Nat → Bool} {n : Nat} (m : Nat) (h1 : ∀ i, i < n → d i = e i) (h2 : ∀ i, n ≤ i → d i = false) : cntB d (n + m) = cntB e n := by
  induction m with
  | zero => exact cntB_congr h1
  | succ m ih =>
    show cntB d (n + m) + (if d (n + m) then 1 else 0) = _
    rw [ih, h2 (n + m) (by omega)]
    rfl
theorem bit1 : ∀ k, k < 10 → ∀ j, j < 32 → (1 <<< (nI k &&& 31) : Int32).toBitVec.getLsbD j = decide (j = k) := by decide +kernel
theorem bitN : ∀ k, k < 10 → ∀ j, j < 32 → ((1 <<< (nI k &&& 31) : Int32) ^^^ (-1)).toBitVec.getLsbD j = decide (j ≠ k) := by decide +kernel
theorem msk_bit {b : Nat → Bool} {n : Nat} (hn : n ≤ 10) (j : Nat) : (msk b n).toBitVec.getLsbD j = (decide (j < n) && b j) := by
  by_cases hj : j < 32
  rotate_left
  · rw [BitVec.getLsbD_of_ge _ _ (by omega)]
    simp
    omega
  induction n with
  | zero =>
    show (0 : BitVec 32).getLsbD j = _
    simp
  | succ n ih =>
    unfold msk
    have ih := ih (by omega)
    by_cases hb : b n = true
    · rw [if_pos hb, Int32.toBitVec_or, BitVec.getLsbD_or, ih, bit1 n (by omega) j hj]
      by_cases h1 : j = n
      · subst h1
        simp [hb]
      · have : (j < n + 1) ↔ (j < n) := by omega
        simp [h1, this]
    · rw [if_neg hb, ih]
      by_cases h1 : j = n
      · subst h1
        simp [hb]
      · have : (j < n + 1) ↔ (j < n) := by omega
        simp [this]
theorem msk_N {x : Int32} (h : ∀ j, 10 ≤ j → x.toBitVec.getLsbD j = false) : ∃ q, q < 1024 ∧ x = nI q ∧ ∀ j, x.toBitVec.getLsbD j = q.testBit j := by
  refine ⟨x.toBitVec.toNat, ?_, ?_, fun j => rfl⟩
  · exact Nat.lt_pow_two_of_testBit (n := 10) _ (fun j hj => h j hj)
  · apply Int32.toBitVec_inj.mp
    show _ = BitVec.ofNat 32 _
    simp
theorem bitc : ∀ q, q < 1024 → f_J6_bitCount_0f7a4 (nI q) = nI (cntB (fun j => q.testBit j) 10) := by decide +kernel
theorem bitp : ∀ q, q < 1024 → ∀ i, i < 10 → decide ((nI q >>> (nI i &&& 31)) - (nI q >>> (nI i &&& 31)) / 2 * 2 = 0) = !(q.testBit i) := by decide +kernel
theorem bitCount_of {x : Int32} {d : Nat → Bool} {n : Nat} (hn : n ≤ 10) (h : ∀ j, x.toBitVec.getLsbD j = (decide (j < n) && d j)) : f_J6_bitCount_0f7a4 x = nI (cntB d n) := by
  obtain ⟨q, hq, hx, hb⟩ := msk_N (x := x) (fun j hj => by rw [h j]; simp; omega)
  rw [hx, bitc q hq]
  congr 1
  have h10 : (10 : Nat) = n + (10 - n) := by omega
  rw [h10]
  refine cntB_ext (10 - n) (fun i hi => ?_) (fun i hi => ?_)
  · rw [← hb i, h i]
    simp [hi]
  · rw [← hb i, h i]
    have : ¬ i < n := by omega
    simp [this]
theorem bit_par {b : Nat → Bool} {n i : Nat} (hn : n ≤ 10) (hi : i < n) : ((msk b n >>> (nI i &&& 31)) - (msk b n >>> (nI i &&& 31)) / 2 * 2 = 0) ↔ b i = false := by
  obtain ⟨q, hq, hx, hb⟩ := msk_N (x := msk b n) (fun j hj => by rw [msk_bit hn]; simp; omega)
  have h1 := bitp q hq i (by omega)
  rw [← hx, ← hb i, msk_bit hn] at h1
  have h2 : (decide (i < n) && b i) = b i := by simp [hi]
  rw [h2] at h1
  cases hbi : b i with
  | false =>
    rw [hbi] at h1
    exact ⟨fun _ => rfl, fun _ => of_decide_eq_true h1⟩
  | true =>
    rw [hbi] at h1
    exact ⟨fun q => absurd q (of_decide_eq_false h1), fun q => by cases q⟩
theorem msk_and {b c : Nat → Bool} {n : Nat} (hn : n ≤ 10) : f_J6_bitCount_0f7a4 (msk b n &&& msk c n) = nI (cntB (fun j => b j && c j) n) := by
  refine bitCount_of hn (fun j => ?_)
  rw [Int32.toBitVec_and, BitVec.getLsbD_and, msk_bit hn, msk_bit hn]
  cases decide (j < n) <;> simp
theorem msk_and3 {b c : Nat → Bool} {n i : Nat} (hn : n ≤ 10) (hi : i < n) : f_J6_bitCount_0f7a4 ((msk b n &&& msk c n) &&& ((1 <<< (nI i &&& 31)) ^^^ (-1))) = nI (cntB (fun j => (b j && c j) && decide (j ≠ i)) n) := by
  refine bitCount_of hn (fun j => ?_)
  rw [Int32.toBitVec_and, BitVec.getLsbD_and, Int32.toBitVec_and, BitVec.getLsbD_and, msk_bit hn, msk_bit hn]
  by_cases hj : j < 32
  · rw [bitN i (by omega) j hj]
    cases decide (j < n) <;> simp
  · rw [BitVec.getLsbD_of_ge _ _ (by omega)]
    have : ¬ j < n := by omega
    simp [this]
theorem msk_full : ∀ n, n < 11 → ((1 <<< (nI n &&& 31) : Int32) - 1) = msk (fun _ => true) n := by decide +kernel
theorem msk_congr {b c : Nat → Bool} {n : Nat} (h : ∀ i, i < n → b i = c i) : msk b n = msk c n := by
  induction n with
  | zero => rfl
  | succ n ih =>
    unfold msk
    rw [ih (fun i hi => h i (by omega)), h n (by omega)]
