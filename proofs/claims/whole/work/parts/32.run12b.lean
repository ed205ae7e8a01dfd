/-- the reference's memory when a way begins -/
def bgR (G : Mem) (n : Nat) : Mem := up2 (up2 (up2 (rpR (rpR (rpR G 18 n (fun _ => 0)) 19 n (fun _ => 0)) 20 n (fun _ => 0)) 0 36 (-1)) 0 38 (-1)) 0 40 (-1)
theorem bgR_n {G : Mem} {n b : Nat} (h : b ≠ 0 ∧ (b < 18 ∨ 20 < b)) : bgR G n b = G b := by
  unfold bgR
  rw [up2_n _ _ _ h.1, up2_n _ _ _ h.1, up2_n _ _ _ h.1, rpR_n (by omega), rpR_n (by omega), rpR_n (by omega)]
theorem bgR_0 {G : Mem} {n j : Nat} (h : j ≠ 36 ∧ j ≠ 38 ∧ j ≠ 40) : bgR G n 0 j = G 0 j := by
  unfold bgR
  rw [up2_o (by omega), up2_o (by omega), up2_o (by omega), rpR_n (by decide), rpR_n (by decide), rpR_n (by decide)]
theorem begin12 {G : Mem} {n : Nat} (hn : n ≤ 10) (h7 : G 0 7 = nI n) : f_X12_begin G = some (bgR G n) := by
  unfold f_X12_begin
  refine iter_fuel q_X12_begin_2 (fun k a => a = (rpR (rpR (rpR G 18 k (fun _ => 0)) 19 k (fun _ => 0)) 20 k (fun _ => 0), nI k)) (fun r => r = some (bgR G n)) n (by omega) ?_ ?_ (by rw [rpR_0, rpR_0, rpR_0]; rfl)
  · rintro k a hk rfl rec
    refine Or.inl ⟨(rpR (rpR (rpR G 18 (k + 1) (fun _ => 0)) 19 (k + 1) (fun _ => 0)) 20 (k + 1) (fun _ => 0), nI (k + 1)), rfl, ?_⟩
    unfold q_X12_begin_2
    show (if rpR (rpR (rpR G 18 k (fun _ => 0)) 19 k (fun _ => 0)) 20 k (fun _ => 0) 0 7 ≤ nI k then _ else _) = _
    have hb : inB (nI k) 10 = true := inB_n (by omega) (by decide)
    rw [rpR_n (q := 0) (by decide), rpR_n (q := 0) (by decide), rpR_n (q := 0) (by decide), h7, if_neg (nI_ge hk (by omega)), chk_t hb, bnd_e, chk_t hb, bnd_e, chk_t hb, bnd_e, bnd_e, nI_clamp (by omega), nI_1]
    have s1 := rpR_s (G := G) (b := 18) (k := k) (f := fun _ => 0)
    rw [rpR_up (show (18 : Nat) ≠ 20 by decide), rpR_up (show (18 : Nat) ≠ 19 by decide), s1]
    have s2 := rpR_s (G := rpR G 18 (k + 1) (fun _ => 0)) (b := 19) (k := k) (f := fun _ => 0)
    rw [rpR_up (show (19 : Nat) ≠ 20 by decide), s2]
    have s3 := rpR_s (G := rpR (rpR G 18 (k + 1) (fun _ => 0)) 19 (k + 1) (fun _ => 0)) (b := 20) (k := k) (f := fun _ => 0)
    rw [s3]
  · rintro a rfl rec
    unfold q_X12_begin_2
    show (if rpR (rpR (rpR G 18 n (fun _ => 0)) 19 n (fun _ => 0)) 20 n (fun _ => 0) 0 7 ≤ nI n then _ else _) = _
    rw [rpR_n (q := 0) (by decide), rpR_n (q := 0) (by decide), rpR_n (q := 0) (by decide), h7, if_pos (nI_le (Nat.le_refl _) (by omega)), bnd_e, bnd_e, bnd_e]
    rfl
theorem begin12_M {G : Mem} {n : Nat} {B : Mem} (hB : ∀ b, ¬ scR b → bgR G n b = B b) : RMem B n 0 (fun _ => (0, 0, 0, true)) (bgR G n) := by
  refine ⟨hB, fun i hi => ⟨?_, ?_, ?_, Or.inl ⟨rfl, rfl⟩⟩⟩
  · unfold bgR
    rw [up2_o (Or.inl (by decide)), up2_o (Or.inl (by decide)), up2_o (Or.inl (by decide)), rpR_n (by decide), rpR_n (by decide), rpR_lt hi]
  · unfold bgR
    rw [up2_o (Or.inl (by decide)), up2_o (Or.inl (by decide)), up2_o (Or.inl (by decide)), rpR_n (by decide), rpR_lt hi]
  · unfold bgR
    rw [up2_o (Or.inl (by decide)), up2_o (Or.inl (by decide)), up2_o (Or.inl (by decide)), rpR_lt hi]
def cntV (B : Mem) (n : Nat) (st : Nat → Sg) (v : Nat) : Nat := cntB (fun i => (st i).2.2.2 && decide (B 6 i = nI v)) n
theorem ofV12 {B : Mem} {n k v : Nat} {st : Nat → Sg} {G : Mem} (hn : n ≤ 10) (h7 : B 0 7 = nI n) (hk : 0 < k) (hG : RMem B n k st G) : f_X12_ofVoice G (nI v) = some (nI (cntV B n st v)) := by
  obtain ⟨hB, hst⟩ := hG
  have b0 : G 0 = B 0 := hB 0 (by unfold scR; omega)
  have b6 : G 6 = B 6 := hB 6 (by unfold scR; omega)
  unfold f_X12_ofVoice cntV
  refine iter_fuel (q_X12_ofVoice_4 G (nI v)) (fun m a => a = (nI (cntB (fun i => (st i).2.2.2 && decide (B 6 i = nI v)) m), nI m)) (fun r => r = some (nI (cntB (fun i => (st i).2.2.2 && decide (B 6 i = nI v)) n))) n (by omega) ?_ ?_ rfl
  · rintro m a hm rfl rec
    refine Or.inl ⟨(nI (cntB (fun i => (st i).2.2.2 && decide (B 6 i = nI v)) (m + 1)), nI (m + 1)), rfl, ?_⟩
    unfold q_X12_ofVoice_4
    show (if G 0 7 ≤ nI m then _ else _) = _
    have hb : inB (nI m) 10 = true := inB_n (by omega) (by decide)
    have h21 : G 21 m = b2 (st m).2.2.2 := by
      rcases (hst m hm).2.2.2 with h | h
      · omega
      · exact h.2
    have z0 : ∀ x : Int32, x + 0 = x := Int32.add_zero
    rw [b0, h7, if_neg (nI_ge hm (by omega)), chk_t hb, nI_clamp (by omega), h21]
    cases hbb : (st m).2.2.2 with
    | false =>
      rw [if_pos (show b2 false = 0 from rfl), bnd_e, bnd_e, z0, nI_1, cntB_f (by simp [hbb])]
    | true =>
      rw [if_neg (show ¬ b2 true = 0 by decide), chk_t hb, b6]
      by_cases hv : B 6 m = nI v
      · rw [if_pos hv, bnd_e, bnd_e, nI_1, nI_1, cntB_t (by simp [hbb, hv])]
      · rw [if_neg hv, bnd_e, bnd_e, z0, nI_1, cntB_f (by simp [hbb, hv])]
  · rintro a rfl rec
    unfold q_X12_ofVoice_4
    show (if G 0 7 ≤ nI n then _ else _) = _
    rw [b0, h7, if_pos (nI_le (Nat.le_refl _) (by omega))]
def thN (B : Mem) (n : Nat) (st : Nat → Sg) (th : Nat → Int32) : Nat → Int32 := fun v => if B 4 v ≤ nI (cntV B n st v) then 0 else th v + 1
theorem RMem.r23 {B : Mem} {n k : Nat} {st : Nat → Sg} {G G1 : Mem} (h : RMem B n k st G) (h1 : ∀ b, b ≠ 23 → G1 b = G b) : RMem B n k st G1 := by
  refine ⟨fun b hb => by rw [h1 b (fun q => hb (by unfold scR; omega))]; exact h.1 b hb, fun i hi => ?_⟩
  rw [h1 18 (by decide), h1 19 (by decide), h1 20 (by decide), h1 21 (by decide)]
  exact h.2 i hi
theorem lookT12 {B : Mem} {n k : Nat} {st : Nat → Sg} {th : Nat → Int32} {G : Mem} (hn : n ≤ 10) (h7 : B 0 7 = nI n) (hk : 0 < k) (hG : RMem B n k st G) (hth : ∀ v, v < 4 → G 23 v = th v) : ∃ Gz, f_X12_lookThin G = some Gz ∧ RMem B n k st Gz ∧ (∀ b, b ≠ 23 → Gz b = G b) ∧ ∀ v, v < 4 → Gz 23 v = thN B n st th v := by
  unfold f_X12_lookThin
  refine iter_fuel q_X12_lookThin_2 (fun v a => ∃ H : Mem, a = (H, nI v) ∧ RMem B n k st H ∧ (∀ b, b ≠ 23 → H b = G b) ∧ (∀ w, w < v → H 23 w = thN B n st th w) ∧ ∀ w, v ≤ w → w < 4 → H 23 w = th w) (fun r => ∃ Gz, r = some Gz ∧ RMem B n k st Gz ∧ (∀ b, b ≠ 23 → Gz b = G b) ∧ ∀ v, v < 4 → Gz 23 v = thN B n st th v) 4 (by omega) ?_ ?_ ⟨G, rfl, hG, fun _ _ => rfl, fun w hw => by omega, fun w _ hw => hth w hw⟩
  · rintro v a hv ⟨H, rfl, e1, e2, e3, e4⟩ rec
    left
    unfold q_X12_lookThin_2
    show ∃ a', _ ∧ (if nI 4 ≤ nI v then _ else _) = rec a'
    have hb : inB (nI v) 4 = true := inB_n hv (by decide)
    have hc : (nI v).toNatClampNeg = v := nI_clamp (by omega)
    have b4 : H 4 = B 4 := e1.1 4 (by unfold scR; omega)
    rw [if_neg (nI_ge hv (by decide)), ofV12 hn h7 hk e1, bndO_e, chk_t hb, chk_t hb, chk_t hb, chk_t hb, hc, b4, e4 v (Nat.le_refl _) hv]
    have put : ∀ x : Int32, x = thN B n st th v → ∃ H2 : Mem, (up2 H 23 v x, nI (v + 1)) = (H2, nI (v + 1)) ∧ RMem B n k st H2 ∧ (∀ b, b ≠ 23 → H2 b = G b) ∧ (∀ w, w < v + 1 → H2 23 w = thN B n st th w) ∧ ∀ w, v + 1 ≤ w → w < 4 → H2 23 w = th w := by
      intro x hx
      refine ⟨_, rfl, e1.r23 (fun b hb => up2_n _ _ _ hb), fun b hb => by rw [up2_n _ _ _ hb]; exact e2 b hb, fun w hw => ?_, fun w h1 h2 => ?_⟩
      · by_cases hwv : w = v
        · rw [hwv, up2_aa, hx]
        · rw [up2_an _ _ _ hwv]
          exact e3 w (by omega)
      · rw [up2_an _ _ _ (by omega)]
        exact e4 w (by omega) h2
    by_cases hle : B 4 v ≤ nI (cntV B n st v)
    · rw [if_pos hle, bnd_e, bnd_e, nI_1]
      refine ⟨_, put 0 ?_, rfl⟩
      unfold thN
      rw [if_pos hle]
    · rw [if_neg hle, bnd_e, bnd_e, nI_1]
      refine ⟨_, put (th v + 1) ?_, rfl⟩
      unfold thN
      rw [if_neg hle]
  · rintro a ⟨H, rfl, e1, e2, e3, e4⟩ rec
    exact ⟨H, rfl, e1, e2, fun v hv => e3 v hv⟩
theorem begT12 (G : Mem) : f_X12_beginThin G = some (rpR G 23 4 (fun _ => 0)) := by
  unfold f_X12_beginThin
  refine iter_fuel q_X12_beginThin_2 (fun k a => a = (rpR G 23 k (fun _ => 0), nI k)) (fun r => r = some (rpR G 23 4 (fun _ => 0))) 4 (by omega) ?_ ?_ (by rw [rpR_0]; rfl)
  · rintro k a hk rfl rec
    refine Or.inl ⟨(rpR G 23 (k + 1) (fun _ => 0), nI (k + 1)), rfl, ?_⟩
    unfold q_X12_beginThin_2
    show (if nI 4 ≤ nI k then _ else _) = _
    have := rpR_s (G := G) (b := 23) (k := k) (f := fun _ => 0)
    rw [if_neg (nI_ge hk (by decide)), chk_t (inB_n hk (by decide)), bnd_e, bnd_e, nI_clamp (by omega), nI_1, this]
  · rintro a rfl rec
    rfl
-- what a sheet plans
def plF (it : Nat → Int32) (i k : Nat) : Nat → Bool
  | 0 => false
  | m + 1 => plF it i k m || (decide (it (2 * m) = nI i) && decide (it (2 * m + 1) = nI k))
theorem plan12 {G : Mem} {sh ln i k : Nat} (hsh : sh < 4) (hln : ln ≤ 40) (h32 : G 32 sh = nI ln) : f_X12_isPlanned G (nI sh) (nI i) (nI k) = some (b2 (plF (fun j => G 33 (40 * sh + j)) i k (ln / 2) || (decide (G 0 38 = nI i) && decide (G 0 39 = nI k)))) := by
  unfold f_X12_isPlanned
  refine iter_fuel (q_X12_isPlanned_3 G (nI sh) (nI i) (nI k)) (fun m a => a = nI (2 * m) ∧ plF (fun j => G 33 (40 * sh + j)) i k m = false) (fun r => r = some (b2 (plF (fun j => G 33 (40 * sh + j)) i k (ln / 2) || (decide (G 0 38 = nI i) && decide (G 0 39 = nI k))))) (ln / 2) (by omega) ?_ ?_ ⟨rfl, rfl⟩
  · rintro m a hm ⟨rfl, hf⟩ rec
    unfold q_X12_isPlanned_3
    have e : (40 : Int32) * nI sh + nI (2 * m) = nI (40 * sh + 2 * m) := by
      rw [show (40 : Int32) = nI 40 from rfl, mulI, nI_add]
    have mono : ∀ q, m + 1 ≤ q → plF (fun j => G 33 (40 * sh + j)) i k (m + 1) = true → plF (fun j => G 33 (40 * sh + j)) i k q = true := by
      intro q hq ht
      induction q with
      | zero => omega
      | succ q ih =>
        by_cases hqm : q = m
        · rw [hqm]; exact ht
        · show (plF _ i k q || _) = true
          rw [ih (by omega)]
          rfl
    rw [chk_t (inB_n hsh (by decide)), nI_clamp (show sh < 2 ^ 31 by omega), h32, nI_1, if_neg (nI_ge (by omega) (by omega)), e, nI_1, chk_t (inB_n (by omega) (by decide)), nI_clamp (show 40 * sh + 2 * m < 2 ^ 31 by omega)]
    have nx : bnd (nI (2 * m) + 2) (fun x4_7 => rec x4_7) = rec (nI (2 * (m + 1))) := by
      rw [bnd_e]
      exact congrArg rec (nI_add (2 * m) 2)
    by_cases h1 : G 33 (40 * sh + 2 * m) = nI i
    · rw [if_pos h1, chk_t (inB_n (by omega) (by decide)), nI_clamp (show 40 * sh + 2 * m + 1 < 2 ^ 31 by omega)]
      by_cases h2 : G 33 (40 * sh + 2 * m + 1) = nI k
      · right
        rw [if_pos h2]
        have ht : plF (fun j => G 33 (40 * sh + j)) i k (m + 1) = true := by
          show (plF _ i k m || (decide (G 33 (40 * sh + 2 * m) = nI i) && decide (G 33 (40 * sh + (2 * m + 1)) = nI k))) = true
          rw [hf, decide_eq_true h1, decide_eq_true (show G 33 (40 * sh + (2 * m + 1)) = nI k from h2)]
          rfl
        rw [mono _ (by omega) ht]
        rfl
      · left
        rw [if_neg h2]
        refine ⟨nI (2 * (m + 1)), ⟨rfl, ?_⟩, nx⟩
        show (plF _ i k m || (decide (G 33 (40 * sh + 2 * m) = nI i) && decide (G 33 (40 * sh + (2 * m + 1)) = nI k))) = false
        rw [hf, decide_eq_false (show ¬ G 33 (40 * sh + (2 * m + 1)) = nI k from h2)]
        simp
    · left
      rw [if_neg h1]
      refine ⟨nI (2 * (m + 1)), ⟨rfl, ?_⟩, nx⟩
      show (plF _ i k m || (decide (G 33 (40 * sh + 2 * m) = nI i) && decide (G 33 (40 * sh + (2 * m + 1)) = nI k))) = false
      rw [hf, decide_eq_false h1]
      rfl
  · rintro a ⟨rfl, hf⟩ rec
    unfold q_X12_isPlanned_3
    rw [chk_t (inB_n hsh (by decide)), nI_clamp (show sh < 2 ^ 31 by omega), h32, nI_1, if_pos (nI_le (by omega) (by omega)), hf]
    by_cases h1 : G 0 38 = nI i
    · rw [if_pos h1, decide_eq_true h1]
      by_cases h2 : G 0 39 = nI k
      · rw [if_pos h2, decide_eq_true h2]; rfl
      · rw [if_neg h2, decide_eq_false h2]; rfl
    · rw [if_neg h1, decide_eq_false h1]
      rfl
