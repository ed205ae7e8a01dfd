-- how a way begins, on both sides
theorem start11 {G : Mem} {B : Mem} {n : Nat} (hn : n ≤ 10) (h11 : G 128 11 = nI n) (h106 : ∀ i, i < n → G 106 i = B 6 i ∧ rgB (B 6 i) 4) : ∃ Gz, f_X1_start G = some Gz ∧ (∀ b, ¬ (b = 128 ∨ b = 130 ∨ b = 131 ∨ b = 132 ∨ b = 134 ∨ b = 135) → Gz b = G b) ∧ (∀ j, j ≠ 13 → Gz 128 j = G 128 j) ∧ (∀ i, i < 10 → Gz 130 i = 0 ∧ Gz 131 i = 0 ∧ Gz 132 i = 0) ∧ (∀ v, v < 4 → Gz 134 v = msk (fun i => decide (B 6 i = nI v)) n ∧ Gz 135 v = 0) ∧ Gz 128 13 = msk (fun _ => true) n := by
  unfold f_X1_start
  rw [fill11 _ _ 10 (by decide), bndO_e, fill11 _ _ 10 (by decide), bndO_e, fill11 _ _ 10 (by decide), bndO_e, fill11 _ _ 4 (by decide), bndO_e, fill11 _ _ 4 (by decide), bndO_e]
  obtain ⟨F, hF⟩ : ∃ F, F = rpR (rpR (rpR (rpR (rpR G 130 10 (fun _ => 0)) 131 10 (fun _ => 0)) 132 10 (fun _ => 0)) 134 4 (fun _ => 0)) 135 4 (fun _ => 0) := ⟨_, rfl⟩
  rw [← hF]
  have fb : ∀ b, ¬ (b = 130 ∨ b = 131 ∨ b = 132 ∨ b = 134 ∨ b = 135) → F b = G b := by
    intro b hb
    rw [hF, rpR_n (by omega), rpR_n (by omega), rpR_n (by omega), rpR_n (by omega), rpR_n (by omega)]
  have f130 : ∀ i, i < 10 → F 130 i = 0 := fun i hi => by rw [hF, rpR_n (by decide), rpR_n (by decide), rpR_n (by decide), rpR_n (by decide), rpR_lt hi]
  have f131 : ∀ i, i < 10 → F 131 i = 0 := fun i hi => by rw [hF, rpR_n (by decide), rpR_n (by decide), rpR_n (by decide), rpR_lt hi]
  have f132 : ∀ i, i < 10 → F 132 i = 0 := fun i hi => by rw [hF, rpR_n (by decide), rpR_n (by decide), rpR_lt hi]
  have f134 : ∀ i, i < 4 → F 134 i = 0 := fun i hi => by rw [hF, rpR_n (by decide), rpR_lt hi]
  have f135 : ∀ i, i < 4 → F 135 i = 0 := fun i hi => by rw [hF, rpR_lt hi]
  refine iter_fuel q_X1_start_42 (fun m a => ∃ H : Mem, a = (H, nI m) ∧ (∀ b, b ≠ 134 → H b = F b) ∧ ∀ v, v < 4 → H 134 v = msk (fun i => decide (B 6 i = nI v)) m) (fun q => ∃ Gz, q = some Gz ∧ (∀ b, ¬ (b = 128 ∨ b = 130 ∨ b = 131 ∨ b = 132 ∨ b = 134 ∨ b = 135) → Gz b = G b) ∧ (∀ j, j ≠ 13 → Gz 128 j = G 128 j) ∧ (∀ i, i < 10 → Gz 130 i = 0 ∧ Gz 131 i = 0 ∧ Gz 132 i = 0) ∧ (∀ v, v < 4 → Gz 134 v = msk (fun i => decide (B 6 i = nI v)) n ∧ Gz 135 v = 0) ∧ Gz 128 13 = msk (fun _ => true) n) n (by omega) ?_ ?_ ⟨F, rfl, fun _ _ => rfl, fun v hv => f134 v hv⟩
  · rintro m a hm ⟨H, rfl, e1, e2⟩ rec
    left
    unfold q_X1_start_42
    show ∃ a', _ ∧ (if H 128 11 ≤ nI m then _ else _) = rec a'
    obtain ⟨p1, v, hv, hve⟩ := h106 m hm
    have hb : inB (nI m) 10 = true := inB_n (by omega) (by decide)
    have hbv : inB (nI v) 4 = true := inB_n hv (by decide)
    rw [e1 128 (by decide), fb 128 (by decide), h11, if_neg (nI_ge hm (by omega)), chk_t hb, nI_clamp (by omega), e1 106 (by decide), fb 106 (by decide), p1, hve, chk_t hbv, chk_t hbv, bnd_e, bnd_e, nI_clamp (by omega), nI_1]
    refine ⟨_, ⟨_, rfl, fun b hb => by rw [up2_n _ _ _ hb]; exact e1 b hb, fun u hu => ?_⟩, rfl⟩
    show _ = (if decide (B 6 m = nI u) = true then _ else _)
    by_cases huv : u = v
    · subst huv
      rw [up2_aa, e2 u hu, if_pos (decide_eq_true hve)]
    · rw [up2_an _ _ _ huv, e2 u hu, if_neg]
      rw [hve]
      intro q
      exact huv ((nI_eq (by omega) (by omega)).mp (of_decide_eq_true q)).symm
  · rintro a ⟨H, rfl, e1, e2⟩ rec
    unfold q_X1_start_42
    show ∃ Gz, (if H 128 11 ≤ nI n then _ else _) = some Gz ∧ _
    rw [e1 128 (by decide), fb 128 (by decide), h11, if_pos (nI_le (Nat.le_refl _) (by omega)), bnd_e]
    refine ⟨_, rfl, fun b hb => ?_, fun j hj => ?_, fun i hi => ⟨?_, ?_, ?_⟩, fun v hv => ⟨?_, ?_⟩, ?_⟩
    · rw [up2_n _ _ _ (by omega), e1 b (by omega), fb b (by omega)]
    · rw [up2_an _ _ _ hj, e1 128 (by decide), fb 128 (by decide)]
    · rw [up2_o (Or.inl (by decide)), e1 130 (by decide)]; exact f130 i hi
    · rw [up2_o (Or.inl (by decide)), e1 131 (by decide)]; exact f131 i hi
    · rw [up2_o (Or.inl (by decide)), e1 132 (by decide)]; exact f132 i hi
    · rw [up2_o (Or.inl (by decide))]; exact e2 v hv
    · rw [up2_o (Or.inl (by decide)), e1 135 (by decide)]; exact f135 v hv
    · rw [up2_aa]
      exact msk_full n (by omega)
-- the plan's bits
def plB (x : Int64) (P : Nat → Bool) : Prop := ∀ j, x.toBitVec.getLsbD j = (decide (j < 48) && P j)
theorem bit64 : ∀ k, k < 48 → ∀ j, j < 64 → ((1 : Int64) <<< ((nI k).toInt64 &&& 63)).toBitVec.getLsbD j = decide (j = k) := by decide +kernel
theorem plB_or {x : Int64} {P : Nat → Bool} {k : Nat} (h : plB x P) (hk : k < 48) : plB (x ||| ((1 : Int64) <<< ((nI k).toInt64 &&& 63))) (fun j => P j || decide (j = k)) := by
  intro j
  rw [Int64.toBitVec_or, BitVec.getLsbD_or, h j]
  by_cases hj : j < 64
  · rw [bit64 k hk j hj]
    by_cases h48 : j < 48
    · simp [h48]
    · have : ¬ j = k := by omega
      simp [h48, this]
  · rw [BitVec.getLsbD_of_ge _ _ (by omega)]
    have h48 : ¬ j < 48 := by omega
    simp [h48]
theorem sh64 : ∀ k, k < 48 → (((nI k).toInt64 &&& 63 : Int64).toBitVec.smod 64).toNat = k := by decide +kernel
theorem bm64 {a : Int} (h0 : 0 ≤ a) (h1 : a < 2 ^ 50) : a.bmod (2 ^ 64) = a := by
  simp only [Int.bmod]
  omega
theorem par64 {x : Int64} {P : Nat → Bool} (h : plB x P) {k : Nat} (hk : k < 48) : lg_cmp ((x >>> ((nI k).toInt64 &&& 63)) - (x >>> ((nI k).toInt64 &&& 63)) / 2 * 2) 1 = 0 ↔ P k = true := by
  obtain ⟨X, hX⟩ : ∃ X, X = x.toBitVec.toNat := ⟨_, rfl⟩
  have hlt : X < 2 ^ 48 := by
    rw [hX]
    refine Nat.lt_pow_two_of_testBit _ (fun j hj => ?_)
    have := h j
    have h48 : ¬ j < 48 := by omega
    simp only [h48, decide_false, Bool.false_and] at this
    exact this
  have hmsb : x.toBitVec.msb = false := by
    have := h 63
    simp only [show ¬ (63 < 48) by omega, decide_false, Bool.false_and] at this
    rw [BitVec.msb_eq_getLsbD_last]
    exact this
  have hsh : (x >>> ((nI k).toInt64 &&& 63)).toBitVec.toNat = X / 2 ^ k := by
    rw [Int64.toBitVec_shiftRight]
    show (x.toBitVec.sshiftRight (((nI k).toInt64 &&& 63 : Int64).toBitVec.smod 64).toNat).toNat = _
    rw [sh64 k hk, BitVec.sshiftRight_eq_of_msb_false hmsb, BitVec.toNat_ushiftRight, ← hX, Nat.shiftRight_eq_div_pow]
  have hy : (x >>> ((nI k).toInt64 &&& 63)).toInt = ((X / 2 ^ k : Nat) : Int) := by
    show (x >>> ((nI k).toInt64 &&& 63)).toBitVec.toInt = _
    have hle : X / 2 ^ k ≤ X := Nat.div_le_self _ _
    rw [BitVec.toInt_eq_toNat_of_lt (by rw [hsh]; omega), hsh]
  generalize x >>> ((nI k).toInt64 &&& 63) = y at hy
  obtain ⟨Y, hY⟩ : ∃ Y, Y = X / 2 ^ k := ⟨_, rfl⟩
  have hYl : Y < 2 ^ 48 := by
    rw [hY]
    exact Nat.lt_of_le_of_lt (Nat.div_le_self _ _) hlt
  rw [← hY] at hy
  have hd : (y / 2).toInt = ((Y / 2 : Nat) : Int) := by
    rw [Int64.toInt_div, hy, show (2 : Int64).toInt = 2 from rfl, Int.tdiv_eq_ediv_of_nonneg (by omega)]
    simp only [Int.bmod]
    omega
  have hr : (y - y / 2 * 2).toInt = ((Y % 2 : Nat) : Int) := by
    rw [Int64.toInt_sub, Int64.toInt_mul, hy, hd, show (2 : Int64).toInt = 2 from rfl, bm64 (a := ((Y / 2 : Nat) : Int) * 2) (by omega) (by omega), bm64 (by omega) (by omega)]
    omega
  have hP : P k = decide (Y % 2 = 1) := by
    have h1 := h k
    have h2 : x.toBitVec.getLsbD k = X.testBit k := by rw [hX]; rfl
    rw [h2, Nat.testBit_eq_decide_div_mod_eq] at h1
    simp only [hk, decide_true, Bool.true_and] at h1
    rw [← h1, hY]
  rw [hP]
  have key : lg_cmp (y - y / 2 * 2) 1 = 0 ↔ (y - y / 2 * 2).toInt = 1 := by
    unfold lg_cmp
    by_cases hg : (y - y / 2 * 2) > 1
    · rw [if_pos hg]
      have := Int64.lt_iff_toInt_lt.mp hg
      rw [show (1 : Int64).toInt = 1 from rfl] at this
      exact ⟨fun q => absurd q (by decide), fun q => by omega⟩
    · rw [if_neg hg]
      by_cases he : (y - y / 2 * 2) = 1
      · rw [if_pos he, he]
        exact ⟨fun _ => rfl, fun _ => rfl⟩
      · rw [if_neg he]
        exact ⟨fun q => absurd q (by decide), fun q => absurd (Int64.toInt_inj.mp (by rw [q]; rfl)) he⟩
  rw [key, hr]
  constructor
  · intro q
    exact decide_eq_true (by omega)
  · intro q
    have := of_decide_eq_true q
    omega
theorem fillL11 (L : MemL) (e n : Nat) (hn : n < 1000) : ∃ L1, f_J7_fill_d0a16 L e n 0 = some L1 ∧ (∀ b, b ≠ e → L1 b = L b) ∧ ∀ j, j < n → L1 e j = 0 := by
  unfold f_J7_fill_d0a16
  rw [bnd_e]
  refine iter_fuel (q_J7_fill_d0a16_6 e n 0) (fun k a => ∃ L1 : MemL, a = (L1, nI k, nI n) ∧ (∀ b, b ≠ e → L1 b = L b) ∧ ∀ j, j < k → L1 e j = 0) (fun q => ∃ L1, q = some L1 ∧ (∀ b, b ≠ e → L1 b = L b) ∧ ∀ j, j < n → L1 e j = 0) n (by omega) ?_ ?_ ⟨L, rfl, fun _ _ => rfl, fun j hj => by omega⟩
  · rintro k a hk ⟨L1, rfl, e1, e2⟩ rec
    left
    unfold q_J7_fill_d0a16_6
    show ∃ a', _ ∧ (if nI n ≤ nI k then _ else _) = rec a'
    rw [if_neg (nI_ge hk (by omega)), chk_t (inB_n hk (by omega)), bnd_e, bnd_e, nI_clamp (by omega), nI_1]
    refine ⟨_, ⟨_, rfl, fun b hb => by rw [up2_n _ _ _ hb]; exact e1 b hb, fun j hj => ?_⟩, rfl⟩
    by_cases hjk : j = k
    · rw [hjk, up2_aa]
    · rw [up2_an _ _ _ hjk]
      exact e2 j (by omega)
  · rintro a ⟨L1, rfl, e1, e2⟩ rec
    unfold q_J7_fill_d0a16_6
    show ∃ L1, (if nI n ≤ nI n then _ else _) = some L1 ∧ _
    rw [if_pos (nI_le (Nat.le_refl _) (by omega))]
    exact ⟨L1, rfl, e1, e2⟩
theorem plan11 {G : Mem} {L : MemL} {e ln n : Nat} {it : Nat → Int32} (hn : n ≤ 10) (h11 : G 128 11 = nI n) (hln : ln ≤ 40) (h2 : G e 2 = nI ln) (hit : ∀ j, j < ln → G (e + 4) j = it j) : ∃ L1, f_X1_readPlan G L e = some L1 ∧ ∀ i, i < n → plB (L1 133 i) (fun k => plF it i k (ln / 2)) := by
  unfold f_X1_readPlan
  obtain ⟨L0, f0, -, f2⟩ := fillL11 L 133 10 (by decide)
  rw [f0, bndO_e]
  refine iter_fuel (q_X1_readPlan_10 G e) (fun m a => ∃ L1 : MemL, a = (L1, nI (2 * m)) ∧ ∀ i, i < n → plB (L1 133 i) (fun k => plF it i k m)) (fun q => ∃ L1, q = some L1 ∧ ∀ i, i < n → plB (L1 133 i) (fun k => plF it i k (ln / 2))) (ln / 2) (by omega) ?_ ?_ ⟨L0, rfl, fun i hi j => ?_⟩
  · rintro m a hm ⟨L1, rfl, e1⟩ rec
    left
    unfold q_X1_readPlan_10
    show ∃ a', _ ∧ (if G e 2 ≤ nI (2 * m) + 1 then _ else _) = rec a'
    have nx : nI (2 * m) + 2 = nI (2 * (m + 1)) := nI_add (2 * m) 2
    rw [h2, nI_1, if_neg (nI_ge (by omega) (by omega)), chk_t (inB_n (by omega) (by decide)), bnd_e, chk_t (inB_n (by omega) (by decide)), bnd_e, nI_clamp (show 2 * m < 2 ^ 31 by omega), nI_clamp (show 2 * m + 1 < 2 ^ 31 by omega), hit (2 * m) (by omega), hit (2 * m + 1) (by omega), h11]
    have same : (∀ i k, i < n → k < 48 → (decide (it (2 * m) = nI i) && decide (it (2 * m + 1) = nI k)) = false) → ∃ L2 : MemL, (L1, nI (2 * (m + 1))) = (L2, nI (2 * (m + 1))) ∧ ∀ i, i < n → plB (L2 133 i) (fun k => plF it i k (m + 1)) := by
      intro h
      refine ⟨L1, rfl, fun i hi j => ?_⟩
      rw [e1 i hi j]
      by_cases h48 : j < 48
      · show _ = (decide (j < 48) && (plF it i j m || _))
        rw [h i j hi h48]
        simp
      · simp [h48]
    rcases rng (it (2 * m)) (nI n) (nI n - 1) n (by omega) rfl rfl with ⟨i, hi, hie, ho, -⟩ | ⟨ho, -, hne⟩
    rotate_left
    · rw [ho, if_neg i10, bnd_e, nx]
      exact ⟨_, same (fun i k hi hk => by rw [decide_eq_false (hne i hi)]; rfl), rfl⟩
    rw [ho, if_pos rfl]
    rcases rng (it (2 * m + 1)) 48 47 48 (by decide) rfl (by decide) with ⟨s, hs, hse, ho2, -⟩ | ⟨ho2, -, hne2⟩
    rotate_left
    · rw [ho2, if_neg i10, bnd_e, nx]
      exact ⟨_, same (fun i k hi hk => by rw [decide_eq_false (hne2 k hk)]; simp), rfl⟩
    rw [ho2, if_pos rfl, hie, hse, chk_t (inB_n (show i < 10 by omega) (by decide)), chk_t (inB_n (show i < 10 by omega) (by decide)), bnd_e, bnd_e, nI_clamp (show i < 2 ^ 31 by omega), nx]
    refine ⟨_, ⟨_, rfl, fun a ha j => ?_⟩, rfl⟩
    by_cases hai : a = i
    · subst hai
      rw [up2_aa, plB_or (e1 a ha) hs j]
      show (decide (j < 48) && (plF it a j m || decide (j = s))) = (decide (j < 48) && (plF it a j m || (decide (it (2 * m) = nI a) && decide (it (2 * m + 1) = nI j))))
      rw [decide_eq_true hie, hse]
      by_cases h48 : j < 48
      · have : (nI s = nI j) ↔ (j = s) := by
          rw [nI_eq (by omega) (by omega)]
          exact eq_comm
        simp [this]
      · simp [h48]
    · rw [up2_an _ _ _ hai, e1 a ha j]
      show _ = (decide (j < 48) && (plF it a j m || (decide (it (2 * m) = nI a) && decide (it (2 * m + 1) = nI j))))
      rw [decide_eq_false (show ¬ it (2 * m) = nI a from fun q => hai ((nI_eq (by omega) (by omega)).mp (by rw [← q, hie])))]
      simp
  · rintro a ⟨L1, rfl, e1⟩ rec
    unfold q_X1_readPlan_10
    show ∃ L1, (if G e 2 ≤ nI (2 * (ln / 2)) + 1 then _ else _) = some L1 ∧ _
    rw [h2, nI_1, if_pos (nI_le (by omega) (by omega))]
    exact ⟨L1, rfl, e1⟩
  · rw [f2 i (by omega)]
    show (0 : BitVec 64).getLsbD j = (decide (j < 48) && plF it i j 0)
    simp [plF]
