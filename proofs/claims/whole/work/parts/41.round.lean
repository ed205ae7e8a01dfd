-- a round: what its steps look like, packed and unpacked
def allB (d : Nat → Bool) : Nat → Bool
  | 0 => true
  | k + 1 => allB d k && d k
theorem allB_t {d : Nat → Bool} {n : Nat} : allB d n = true ↔ ∀ i, i < n → d i = true := by
  induction n with
  | zero => exact ⟨fun _ i hi => by omega, fun _ => rfl⟩
  | succ n ih =>
    unfold allB
    rw [Bool.and_eq_true, ih]
    exact ⟨fun h i hi => if hin : i < n then h.1 i hin else by rw [show i = n by omega]; exact h.2, fun h => ⟨fun i hi => h i (by omega), h n (by omega)⟩⟩
def eqS (n : Nat) (s1 s2 : Nat → Sg) : Bool := allB (fun i => decide ((s1 i).1 = (s2 i).1) && decide ((s1 i).2.1 = (s2 i).2.1)) n
def rdOK (n k : Nat) (st : Nat → Sg) : Prop := ∀ i, i < n → rgB (st i).1 61 ∧ rgB (st i).2.1 19 ∧ rgB (st i).2.2.1 (k + 1)
theorem cap60 {k h m o l : Int32} (hh : rgC h 2 40) (hm : rgB m 10) (ho : rgB o 1000) (hl : rgB l 10) : (capS k h m o l).toInt ≤ 60 := by
  obtain ⟨a, a1, a2, rfl⟩ := hh
  obtain ⟨b, b1, rfl⟩ := hm
  obtain ⟨c, c1, rfl⟩ := ho
  obtain ⟨d, d1, rfl⟩ := hl
  have t1 : (nI a - nI d).toInt = (a : Int) - d := by
    rw [Int32.toInt_sub, nI_toInt (by omega), nI_toInt (by omega)]
    simp only [Int.bmod]
    omega
  have t2 : (nI d / 2).toInt ≤ 5 ∧ 0 ≤ (nI d / 2).toInt := by
    have := pk_div (a := d) (d := 2) (by omega) (by decide) (by decide)
    rw [show (nI 2 : Int32) = 2 from rfl] at this
    rw [this, nI_toInt (by omega)]
    omega
  have t3 : ((nI a - nI d) / 2).toInt ≤ 20 := by
    by_cases had : d ≤ a
    · have := pk_div (a := a - d) (d := 2) (by omega) (by decide) (by decide)
      rw [show (nI 2 : Int32) = 2 from rfl] at this
      rw [subI had, this, nI_toInt (by omega)]
      omega
    · exact (show ∀ a, a < 9 → ∀ d, d < 10 → ((nI a - nI d) / 2).toInt ≤ 20 by decide +kernel) a (by omega) d (by omega)
  have one60 : ∀ c : Int32, c.toInt ≤ 60 → (if 1 ≤ c then c else 1).toInt ≤ 60 := by
    intro c hc
    split
    · exact hc
    · decide
  unfold capS
  rw [bnd_e]
  refine one60 _ ?_
  split
  · rw [Int32.toInt_add, t1]
    simp only [Int.bmod]
    omega
  split
  · rw [Int32.toInt_sub, t1, nI_toInt (by omega)]
    simp only [Int.bmod]
    omega
  split
  · have t4 : (nI a - nI d - nI c).toInt = (a : Int) - d - c := by
      rw [Int32.toInt_sub, t1, nI_toInt (by omega)]
      simp only [Int.bmod]
      omega
    rw [Int32.toInt_sub, t4, nI_toInt (by omega)]
    simp only [Int.bmod]
    omega
  split
  · have t4 : (nI a - nI d + nI d / 2).toInt = (a : Int) - d + (nI d / 2).toInt := by
      rw [Int32.toInt_add, t1]
      simp only [Int.bmod]
      omega
    rw [Int32.toInt_add, t4, nI_toInt (by omega)]
    simp only [Int.bmod]
    omega
  split
  · omega
  · rw [t1]
    omega
theorem rdOK_s {B : Mem} {ev : Nat → (Nat → Int32) → Int32} {way : Int32} {lo : Nat → Int32} {pl : Nat → Nat → Bool} {n k : Nat} {st : Nat → Sg} (hw : way = 0 ∨ way = 6) (hk : k < 900) (hsg : ∀ i, i < n → rgB (B 5 i) 6 ∧ rgC (B 9 i) 1 9 ∧ rgC (B 7 i) 2 40 ∧ rgB (B 8 i) 10) (hlo : rgB (lo k) 10) (h : rdOK n k st) : rdOK n (k + 1) (stepS B ev way lo pl n 99 0 k st) := by
  intro i hi
  obtain ⟨⟨a, a1, a2⟩, ⟨b, b1, b2⟩, ⟨c, c1, c2⟩⟩ := h i hi
  obtain ⟨g5, g9, g7, g8⟩ := hsg i hi
  unfold stepS oneS
  by_cases hl : decide (i = 99 ∧ 0 ≤ k) = true
  · rw [if_pos hl]
    exact ⟨⟨0, by decide, rfl⟩, ⟨0, by decide, rfl⟩, c, by omega, c2⟩
  rw [if_neg hl]
  by_cases h0 : (st i).2.1 = 0
  · rw [if_pos h0]
    by_cases hb : begS B ev way lo pl n k i st = true
    · rw [if_pos hb]
      obtain ⟨m, m1, m2, m3⟩ := tk_rg g5 g9 (o := (st i).2.2.1)
      refine ⟨⟨0, by decide, rfl⟩, ⟨m - 1, by omega, ?_⟩, ⟨c + 1, by omega, ?_⟩⟩
      · show tkS (B 5 i) (B 9 i) (st i).2.2.1 - 1 = nI (m - 1)
        rw [m3]
        exact subI (b := 1) m1
      · show (st i).2.2.1 + 1 = nI (c + 1)
        rw [c2, nI_1]
    · rw [if_neg hb]
      have hcap : (st i).1 < capS (B 5 i) (B 7 i) (B 8 i) (st i).2.2.1 (lo k) := by
        unfold begS at hb
        rw [if_neg (by rcases hw with q | q <;> rw [q] <;> decide), if_pos (by rcases hw with q | q <;> rw [q] <;> decide)] at hb
        by_cases hc : (st i).1 < capS (B 5 i) (B 7 i) (B 8 i) (st i).2.2.1 (lo k)
        · exact hc
        · rw [if_neg hc] at hb
          exact absurd rfl hb
      have h60 := cap60 (k := B 5 i) g7 g8 (o := (st i).2.2.1) ⟨c, by omega, c2⟩ hlo
      have hlt := Int32.lt_iff_toInt_lt.mp hcap
      rw [a2, nI_toInt (by omega)] at hlt
      refine ⟨⟨a + 1, by rw [← a2] at *; omega, ?_⟩, ⟨0, by decide, rfl⟩, c, by omega, c2⟩
      show (st i).1 + 1 = nI (a + 1)
      rw [a2, nI_1]
  · rw [if_neg h0]
    refine ⟨⟨0, by decide, rfl⟩, ⟨b - 1, by omega, ?_⟩, c, by omega, c2⟩
    show (st i).2.1 - 1 = nI (b - 1)
    rw [b2] at h0 ⊢
    exact subI (b := 1) (Nat.pos_of_ne_zero (fun q => h0 (by rw [q]; rfl)))
/-- the packed state -/
def pkN (st : Nat → Sg) (s : Nat) : Nat → Nat
  | 0 => 0
  | m + 1 => pkN st s m * 4096 + (st (s + m)).1.toNatClampNeg * 32 + (st (s + m)).2.1.toNatClampNeg
theorem shl12 (q : Nat) : (lN q) <<< ((12 : Int32).toInt64 &&& 63) = lN (q * 4096) := by
  apply Int64.toBitVec_inj.mp
  rw [Int64.toBitVec_shiftLeft]
  have h12 : (((12 : Int32).toInt64 &&& 63 : Int64).toBitVec.smod 64).toNat = 12 := by decide
  show (BitVec.ofNat 64 q) <<< (((12 : Int32).toInt64 &&& 63 : Int64).toBitVec.smod 64).toNat = BitVec.ofNat 64 (q * 4096)
  rw [h12]
  apply BitVec.eq_of_toNat_eq
  rw [BitVec.toNat_shiftLeft, BitVec.toNat_ofNat, BitVec.toNat_ofNat, Nat.shiftLeft_eq]
  omega
theorem shl5 : ∀ a, a < 128 → (nI a) <<< (5 &&& 31 : Int32) = nI (a * 32) := by decide +kernel
theorem pkN_lt {st : Nat → Sg} {n k s : Nat} (h : rdOK n k st) : ∀ m, s + m ≤ n → m ≤ 5 → pkN st s m < 4096 ^ m := by
  intro m
  induction m with
  | zero => intro _ _; exact Nat.zero_lt_one
  | succ m ih =>
    intro hm h5
    have := ih (by omega) (by omega)
    obtain ⟨⟨a, a1, a2⟩, ⟨b, b1, b2⟩, -⟩ := h (s + m) (by omega)
    show pkN st s m * 4096 + (st (s + m)).1.toNatClampNeg * 32 + (st (s + m)).2.1.toNatClampNeg < 4096 ^ (m + 1)
    rw [a2, b2, nI_clamp (by omega), nI_clamp (by omega), Nat.pow_succ]
    omega
theorem pkN_inj {s1 s2 : Nat → Sg} {n k1 k2 s : Nat} (h1 : rdOK n k1 s1) (h2 : rdOK n k2 s2) : ∀ m, s + m ≤ n → (pkN s1 s m = pkN s2 s m ↔ ∀ j, j < m → (s1 (s + j)).1 = (s2 (s + j)).1 ∧ (s1 (s + j)).2.1 = (s2 (s + j)).2.1) := by
  intro m
  induction m with
  | zero => intro _; exact ⟨fun _ j hj => by omega, fun _ => rfl⟩
  | succ m ih =>
    intro hm
    have ih := ih (by omega)
    obtain ⟨⟨a, a1, a2⟩, ⟨b, b1, b2⟩, -⟩ := h1 (s + m) (by omega)
    obtain ⟨⟨c, c1, c2⟩, ⟨d, d1, d2⟩, -⟩ := h2 (s + m) (by omega)
    show pkN s1 s m * 4096 + (s1 (s + m)).1.toNatClampNeg * 32 + (s1 (s + m)).2.1.toNatClampNeg = pkN s2 s m * 4096 + (s2 (s + m)).1.toNatClampNeg * 32 + (s2 (s + m)).2.1.toNatClampNeg ↔ _
    rw [a2, b2, c2, d2, nI_clamp (by omega), nI_clamp (by omega), nI_clamp (by omega), nI_clamp (by omega)]
    constructor
    · intro q
      have q1 : pkN s1 s m = pkN s2 s m ∧ a = c ∧ b = d := by omega
      intro j hj
      by_cases hjm : j = m
      · subst hjm
        rw [a2, b2, c2, d2, q1.2.1, q1.2.2]
        exact ⟨rfl, rfl⟩
      · exact ih.mp q1.1 j (by omega)
    · intro q
      have q1 := ih.mpr (fun j hj => q j (by omega))
      obtain ⟨q2, q3⟩ := q m (by omega)
      rw [a2, c2] at q2
      rw [b2, d2] at q3
      have := (nI_eq (by omega) (by omega)).mp q2
      have := (nI_eq (by omega) (by omega)).mp q3
      omega
theorem lN_inj {a b : Nat} (ha : a < 2 ^ 61) (hb : b < 2 ^ 61) : lN a = lN b ↔ a = b := by
  constructor
  · intro h
    have h1 : (lN a).toInt = (lN b).toInt := by rw [h]
    have e1 : (lN a).toInt = (a : Int) := Int64.toInt_ofNat_of_lt (by omega)
    have e2 : (lN b).toInt = (b : Int) := Int64.toInt_ofNat_of_lt (by omega)
    omega
  · intro h; rw [h]
theorem state11 {C G : Mem} {n k ls lk k1 s : Nat} {st : Nat → Sg} {th : Nat → Int32} (hn : n ≤ 10) (hs : s = 0 ∨ s = 5) (h11 : G 128 11 = nI n) (hrow : ∀ i, i < n → G 130 i = (st i).1 ∧ G 131 i = (st i).2.1) (h : rdOK n k st) : f_X1_stateOf G (nI s) (nI (s + 5)) = some (lN (pkN st s (min 5 (n - s)))) := by
  unfold f_X1_stateOf
  obtain ⟨m, hm⟩ : ∃ m, m = min 5 (n - s) := ⟨_, rfl⟩
  rw [← hm]
  refine iter_fuel (q_X1_stateOf_5 G (nI s) (nI (s + 5))) (fun j a => a = (lN (pkN st s j), nI (s + j))) (fun q => q = some (lN (pkN st s m))) m (by omega) ?_ ?_ rfl
  · rintro j a hj rfl rec
    refine Or.inl ⟨(lN (pkN st s (j + 1)), nI (s + (j + 1))), rfl, ?_⟩
    unfold q_X1_stateOf_5
    show (if nI (s + 5) ≤ nI (s + j) then _ else (if G 128 11 ≤ nI (s + j) then _ else _)) = _
    have hb : inB (nI (s + j)) 10 = true := inB_n (by omega) (by decide)
    obtain ⟨⟨a, a1, a2⟩, ⟨b, b1, b2⟩, -⟩ := h (s + j) (by omega)
    obtain ⟨r1, r2⟩ := hrow (s + j) (by omega)
    rw [if_neg (nI_ge (by omega) (by omega)), h11, if_neg (nI_ge (by omega) (by omega)), chk_t hb, chk_t hb, bnd_e, bnd_e, nI_1, nI_clamp (by omega), r1, r2, a2, b2, shl12, shl5 a (by omega), nI_l (by omega), nI_l (by omega), lN_add, lN_add]
    have : pkN st s (j + 1) = pkN st s j * 4096 + a * 32 + b := by
      show pkN st s j * 4096 + (st (s + j)).1.toNatClampNeg * 32 + (st (s + j)).2.1.toNatClampNeg = _
      rw [a2, b2, nI_clamp (by omega), nI_clamp (by omega)]
    rw [this]
    rfl
  · rintro a rfl rec
    unfold q_X1_stateOf_5
    show (if nI (s + 5) ≤ nI (s + m) then _ else (if G 128 11 ≤ nI (s + m) then _ else _)) = _
    by_cases h5 : s + 5 ≤ s + m
    · rw [if_pos (nI_le h5 (by omega))]
    · rw [if_neg (nI_ge (by omega) (by omega)), h11, if_pos (nI_le (by omega) (by omega))]
theorem cmp0 (x y : Int64) : lg_cmp x y = 0 ↔ x = y := by
  unfold lg_cmp
  by_cases h : x > y
  · rw [if_pos h]
    exact ⟨fun q => absurd q (by decide), fun q => by rw [q] at h; exact absurd h Int64.lt_irrefl⟩
  · rw [if_neg h]
    by_cases h2 : x = y
    · rw [if_pos h2]
      exact ⟨fun _ => h2, fun _ => rfl⟩
    · rw [if_neg h2]
      exact ⟨fun q => absurd q (by decide), fun q => absurd q h2⟩
theorem earl11 {L : MemL} {n k : Nat} {rn : Nat → Nat → Sg} (hn : n ≤ 10) (hk : k < 200) (hrd : ∀ j, j ≤ k → rdOK n (j + 1) (rn (j + 1))) (hp : ∀ j, j ≤ k → L 137 j = lN (pkN (rn (j + 1)) 0 (min 5 (n - 0))) ∧ L 138 j = lN (pkN (rn (j + 1)) 5 (min 5 (n - 5)))) : f_X11_earlierLike L (nI k) = some (match fstI (fun j => eqS n (rn (j + 1)) (rn (k + 1))) k with | some j => nI j | none => -1) := by
  unfold f_X11_earlierLike
  rw [fst_loop (q_X11_earlierLike_2 L (nI k)) (fun j => eqS n (rn (j + 1)) (rn (k + 1))) k (by omega) (fun j => some (nI j)) (some (-1)) ?_ ?_]
  · exact opt_match (fun _ => rfl) rfl
  · intro j hj rec
    unfold q_X11_earlierLike_2
    have hb : inB (nI j) 200 = true := inB_n (by omega) (by decide)
    have hbk : inB (nI k) 200 = true := inB_n (by omega) (by decide)
    rw [if_neg (nI_ge hj (by omega)), chk_t hb, chk_t hbk, chk_t hb, chk_t hbk, nI_clamp (show j < 2 ^ 31 by omega), nI_clamp (show k < 2 ^ 31 by omega), (hp j (by omega)).1, (hp j (by omega)).2, (hp k (Nat.le_refl _)).1, (hp k (Nat.le_refl _)).2, bnd_e, nI_1]
    have b1 : ∀ i s m, i ≤ k → s + m ≤ n → m ≤ 5 → pkN (rn (i + 1)) s m < 2 ^ 61 := by
      intro i s m hi hm h5
      have h1 := pkN_lt (hrd i hi) m hm h5
      have h2 : 4096 ^ m ≤ 4096 ^ 5 := Nat.pow_le_pow_right (by decide) h5
      have h3 : 4096 ^ 5 < 2 ^ 61 := by decide
      omega
    have e1 : lg_cmp (lN (pkN (rn (j + 1)) 0 (min 5 (n - 0)))) (lN (pkN (rn (k + 1)) 0 (min 5 (n - 0)))) = 0 ↔ ∀ i, i < min 5 (n - 0) → (rn (j + 1) (0 + i)).1 = (rn (k + 1) (0 + i)).1 ∧ (rn (j + 1) (0 + i)).2.1 = (rn (k + 1) (0 + i)).2.1 := by
      rw [cmp0, lN_inj (b1 j _ _ (by omega) (by omega) (by omega)) (b1 k _ _ (by omega) (by omega) (by omega)), pkN_inj (hrd j (by omega)) (hrd k (by omega)) _ (by omega)]
    have e2 : 5 ≤ n → (lg_cmp (lN (pkN (rn (j + 1)) 5 (min 5 (n - 5)))) (lN (pkN (rn (k + 1)) 5 (min 5 (n - 5)))) = 0 ↔ ∀ i, i < min 5 (n - 5) → (rn (j + 1) (5 + i)).1 = (rn (k + 1) (5 + i)).1 ∧ (rn (j + 1) (5 + i)).2.1 = (rn (k + 1) (5 + i)).2.1) := by
      intro h5
      rw [cmp0, lN_inj (b1 j _ _ (by omega) (by omega) (by omega)) (b1 k _ _ (by omega) (by omega) (by omega)), pkN_inj (hrd j (by omega)) (hrd k (by omega)) _ (by omega)]
    have e2' : ¬ 5 ≤ n → lg_cmp (lN (pkN (rn (j + 1)) 5 (min 5 (n - 5)))) (lN (pkN (rn (k + 1)) 5 (min 5 (n - 5)))) = 0 := by
      intro h5
      have : min 5 (n - 5) = 0 := by omega
      rw [this]
      exact (cmp0 _ _).mpr rfl
    have heq : eqS n (rn (j + 1)) (rn (k + 1)) = true ↔ (lg_cmp (lN (pkN (rn (j + 1)) 0 (min 5 (n - 0)))) (lN (pkN (rn (k + 1)) 0 (min 5 (n - 0)))) = 0 ∧ lg_cmp (lN (pkN (rn (j + 1)) 5 (min 5 (n - 5)))) (lN (pkN (rn (k + 1)) 5 (min 5 (n - 5)))) = 0) := by
      unfold eqS
      rw [allB_t]
      constructor
      · intro h
        have h' : ∀ i, i < n → (rn (j + 1) i).1 = (rn (k + 1) i).1 ∧ (rn (j + 1) i).2.1 = (rn (k + 1) i).2.1 := by
          intro i hi
          have := h i hi
          rw [Bool.and_eq_true] at this
          exact ⟨of_decide_eq_true this.1, of_decide_eq_true this.2⟩
        refine ⟨e1.mpr (fun i hi => h' _ (by omega)), ?_⟩
        by_cases h5 : 5 ≤ n
        · exact (e2 h5).mpr (fun i hi => h' _ (by omega))
        · exact e2' h5
      · rintro ⟨h1, h2⟩ i hi
        have g1 := e1.mp h1
        have key : (rn (j + 1) i).1 = (rn (k + 1) i).1 ∧ (rn (j + 1) i).2.1 = (rn (k + 1) i).2.1 := by
          by_cases hi5 : i < 5
          · have := g1 i (by omega)
            rw [Nat.zero_add] at this
            exact this
          · have := (e2 (by omega)).mp h2 (i - 5) (by omega)
            rw [show 5 + (i - 5) = i by omega] at this
            exact this
        rw [Bool.and_eq_true]
        exact ⟨decide_eq_true key.1, decide_eq_true key.2⟩
    show _ = if eqS n (rn (j + 1)) (rn (k + 1)) then some (nI j) else rec (nI (j + 1))
    by_cases he : eqS n (rn (j + 1)) (rn (k + 1)) = true
    · obtain ⟨h1, h2⟩ := heq.mp he
      rw [if_pos h1, if_pos h2, if_pos he]
    · rw [if_neg he]
      by_cases h1 : lg_cmp (lN (pkN (rn (j + 1)) 0 (min 5 (n - 0)))) (lN (pkN (rn (k + 1)) 0 (min 5 (n - 0)))) = 0
      · rw [if_pos h1, if_neg (fun h2 => he (heq.mpr ⟨h1, h2⟩))]
      · rw [if_neg h1]
  · intro rec
    unfold q_X11_earlierLike_2
    rw [if_pos (nI_le (Nat.le_refl _) (by omega))]
theorem like12 {G : Mem} {n j k : Nat} {rn : Nat → Nat → Sg} (hn : n ≤ 10) (h7 : G 0 7 = nI n) (hj : j < 200) (hk : k < 200) (hr : ∀ q, q = j ∨ q = k → ∀ i, i < n → G 24 (10 * q + i) = (rn (q + 1) i).1 ∧ G 25 (10 * q + i) = (rn (q + 1) i).2.1) : f_X12_isLike G (nI j) (nI k) = some (b2 (eqS n (rn (j + 1)) (rn (k + 1)))) := by
  unfold f_X12_isLike eqS
  obtain ⟨P, hP⟩ : ∃ P : Nat → Bool, P = fun i => decide ((rn (j + 1) i).1 = (rn (k + 1) i).1) && decide ((rn (j + 1) i).2.1 = (rn (k + 1) i).2.1) := ⟨_, rfl⟩
  rw [← hP]
  refine iter_fuel (q_X12_isLike_2 G (nI j) (nI k)) (fun i a => a = nI i ∧ ∀ q, q < i → P q = true) (fun r => r = some (b2 (allB P n))) n (by omega) ?_ ?_ ⟨rfl, fun q hq => by omega⟩
  · rintro i a hi ⟨rfl, h⟩ rec
    unfold q_X12_isLike_2
    have ea : (10 : Int32) * nI j + nI i = nI (10 * j + i) := by rw [show (10 : Int32) = nI 10 from rfl, mulI, nI_add]
    have eb : (10 : Int32) * nI k + nI i = nI (10 * k + i) := by rw [show (10 : Int32) = nI 10 from rfl, mulI, nI_add]
    have ba : inB (nI (10 * j + i)) 2000 = true := inB_n (by omega) (by decide)
    have bb : inB (nI (10 * k + i)) 2000 = true := inB_n (by omega) (by decide)
    rw [h7, if_neg (nI_ge hi (by omega)), ea, eb, chk_t ba, chk_t bb, chk_t ba, chk_t bb, nI_clamp (show 10 * j + i < 2 ^ 31 by omega), nI_clamp (show 10 * k + i < 2 ^ 31 by omega), (hr j (Or.inl rfl) i hi).1, (hr j (Or.inl rfl) i hi).2, (hr k (Or.inr rfl) i hi).1, (hr k (Or.inr rfl) i hi).2, bnd_e, nI_1]
    have no : ¬ P i = true → some (b2 (allB P n)) = some (0 : Int32) := by
      intro hp
      have : ¬ allB P n = true := fun q => hp (allB_t.mp q i hi)
      cases hb : allB P n with
      | true => exact absurd hb this
      | false => rfl
    by_cases h1 : (rn (j + 1) i).1 = (rn (k + 1) i).1
    · by_cases h2 : (rn (j + 1) i).2.1 = (rn (k + 1) i).2.1
      · left
        rw [if_pos h1, if_pos h2]
        refine ⟨nI (i + 1), ⟨rfl, fun q hq => ?_⟩, rfl⟩
        by_cases hqi : q = i
        · rw [hqi, hP]
          show (decide _ && decide _) = true
          rw [decide_eq_true h1, decide_eq_true h2]
          rfl
        · exact h q (by omega)
      · right
        rw [if_pos h1, if_neg h2, no (by rw [hP]; show ¬ (decide _ && decide _) = true; rw [decide_eq_false h2]; simp)]
    · right
      rw [if_neg h1, no (by rw [hP]; show ¬ (decide _ && decide _) = true; rw [decide_eq_false h1]; simp)]
  · rintro a ⟨rfl, h⟩ rec
    unfold q_X12_isLike_2
    rw [h7, if_pos (nI_le (Nat.le_refl _) (by omega)), allB_t.mpr h]
    rfl
theorem ag_round : Ag_round RR := by
  intro z t G L O S G' x1 x2 x3 hR
  have hz := hR.1.1
  have bad : ∀ {A : Option (Mem × MemL × MemO × Int32)} {B : Option (Mem × Int32)}, A = some (G, L, O, -2) → B = some (G', -2) → ∃ (G1 : Mem) (L1 : MemL) (O1 : MemO) (G1' : Mem) (v : Int32), A = some (G1, L1, O1, v) ∧ B = some (G1', v) ∧ OW S O O1 ∧ RR z t G1 L1 O1 S G1' := fun h1 h2 => ⟨G, L, O, G', _, h1, h2, OW_rfl, hR⟩
  have main : (x1 = 0 ∨ x1 = 6) → ∃ (G1 : Mem) (L1 : MemL) (O1 : MemO) (G1' : Mem) (v : Int32), j_X11_round_10 S x1 x2 x3 G L O = some (G1, L1, O1, v) ∧ j_X12_round_10 x1 x2 x3 G' = some (G1', v) ∧ OW S O O1 ∧ RR z t G1 L1 O1 S G1' := by
    intro hx1
    obtain ⟨w, hw, hwe⟩ : ∃ w, (w = 0 ∨ w = 6) ∧ x1 = nI w := by
      rcases hx1 with h | h
      · exact ⟨0, Or.inl rfl, h⟩
      · exact ⟨6, Or.inr rfl, h⟩
    subst hwe
    unfold j_X11_round_10 j_X12_round_10
    rcases rng x2 10 9 10 (by decide) rfl (by decide) with ⟨ld, hld, rfl, ho, hi⟩ | ⟨ho, hi, -⟩
    rotate_left
    · exact bad (by rw [ho, if_neg i10]) (by rw [hi, if_pos rfl])
    rw [ho, hi, if_pos rfl, if_neg i10]
    rcases rng x3 2 1 2 (by decide) rfl (by decide) with ⟨wt, hwt, rfl, ho, hi⟩ | ⟨ho, hi, -⟩
    rotate_left
    · exact bad (by rw [ho, if_neg i10]) (by rw [hi, if_pos rfl])
    rw [ho, hi, if_pos rfl, if_neg i10]
    have hnp : f_X12_in (nI w) 2 5 = 0 := by rcases hw with h | h <;> rw [h] <;> decide
    obtain ⟨r, ev, pl, C, L1, h1, h2, h3, h4, h5, h6, -⟩ := RR_ctx (w := w) hR (by omega) (fun q => absurd hnp q)
    rw [h1, bndP3_e, begin12 hz hR.1.2.2.1, bndO_e, bnd_e]
    obtain ⟨B, hB⟩ : ∃ B, B = up2 (bgR G' z) 0 40 (nI ld) := ⟨_, rfl⟩
    rw [← hB]
    have bn : ∀ b, b ≠ 0 → ¬ scR b → B b = G' b := fun b h0 hb => by rw [hB, up2_n _ _ _ h0, bgR_sc h0 hb]
    have b0 : ∀ j, ¬ (36 ≤ j ∧ j ≤ 40) → B 0 j = G' 0 j := fun j hj => by rw [hB, up2_o (by omega), bgR_0 (by omega)]
    have e36 : B 0 36 = -1 := by
      rw [hB, up2_o (by omega)]
      unfold bgR
      rw [up2_an _ _ _ (by decide), up2_an _ _ _ (by decide), up2_aa]
    have e38 : B 0 38 = -1 := by
      rw [hB, up2_o (by omega)]
      unfold bgR
      rw [up2_an _ _ _ (by decide), up2_aa]
    have e40 : B 0 40 = nI ld := by rw [hB, up2_aa]
    have hCR : CxR B ev (nI w) (fun _ => nI ld) pl z 200 := h3 B _ 200 (fun b hb => bn b (by omega) (by unfold scR; omega)) (fun i hi => by rw [bn 6 (by decide) (by unfold scR; omega)]; exact (hR.1.2.2.2 i hi).2.2.2.2.2.2.2.2.2.2) (by rw [b0 7 (by omega)]; exact hR.1.2.2.1) (b0 16 (by omega)) e38 (fun k hk => Or.inl ⟨by rw [e40]; exact nI_pos' (by omega), by rw [e40]⟩) (fun q => by omega) (by decide)
    have hCC : CxC C L1 (up2 O 128 12 (some (2000 + 4 * r))) S B ev w r pl z 200 99 0 := h2 B 200 (fun b hb => bn b (by omega) (by unfold scR; omega)) (by decide) (fun q => by omega)
    have hCCL : ∀ L2, CxC C L2 (up2 O 128 12 (some (2000 + 4 * r))) S B ev w r pl z 200 99 0 := fun L2 => hCC.tr (L2 := L2) (pl2 := pl) (ls2 := 99) (lk2 := 0) (fun _ _ => rfl) rfl rfl (Or.inr ⟨(hCC.2.2.2.2.1.resolve_left (fun q => by omega)).1, by omega⟩) (fun _ _ => rfl) (fun i hi => (hCC.2.2.2.2.2.1 i hi).2.2.2.2.2.2.2) (fun v hv => hCC.2.2.2.2.2.2.2.2.1 v hv) (fun q => absurd hnp q)
    have hM : RMem B z 0 (fun _ => (0, 0, 0, true)) B := by
      refine ⟨fun _ _ => rfl, fun j hj => ?_⟩
      have := (begin12_M (G := G') (n := z) (B := bgR G' z) (fun _ _ => rfl)).2 j hj
      rw [hB, up2_o (Or.inl (by decide)), up2_o (b := 19) (Or.inl (by decide)), up2_o (b := 20) (Or.inl (by decide))]
      exact ⟨this.1, this.2.1, this.2.2.1, Or.inl ⟨rfl, rfl⟩⟩
    have h7 : B 0 7 = nI z := by rw [b0 7 (by omega)]; exact hR.1.2.2.1
    obtain ⟨rn, hrn⟩ : ∃ x, x = runS B ev (nI w) (fun _ => nI ld) pl z 99 0 := ⟨_, rfl⟩
    have hrn0 : rn 0 = fun _ => (0, 0, 0, true) := by rw [hrn]; rfl
    have hsgB : ∀ i, i < z → rgB (B 5 i) 6 ∧ rgC (B 9 i) 1 9 ∧ rgC (B 7 i) 2 40 ∧ rgB (B 8 i) 10 := by
      intro i hi
      rw [bn 5 (by decide) (by unfold scR; omega), bn 7 (by decide) (by unfold scR; omega), bn 8 (by decide) (by unfold scR; omega), bn 9 (by decide) (by unfold scR; omega)]
      obtain ⟨q1, q2, q3, q4, q5, q6, q7, q8, q9, q10, q11⟩ := hR.1.2.2.2 i hi
      exact ⟨q6, q8, q7, q9⟩
    have hrd : ∀ k, k ≤ 200 → rdOK z k (rn k) := by
      intro k
      induction k with
      | zero =>
        intro _
        rw [hrn0]
        exact fun i hi => ⟨⟨0, by decide, rfl⟩, ⟨0, by decide, rfl⟩, 0, by decide, rfl⟩
      | succ k ih =>
        intro hk
        have := rdOK_s (lo := fun _ => nI ld) (ev := ev) (pl := pl) (way := nI w) (by rcases hw with h | h <;> rw [h] <;> simp [nI] <;> decide) (by omega) hsgB ⟨ld, hld, rfl⟩ (ih (by omega))
        rw [hrn] at this ⊢
        exact this
    have key : ∀ (f k : Nat) (H H' : Mem) (Lk : MemL), k ≤ 200 → 200 - k < f → CMem C z k 99 0 (rn k) (thS B ev (nI w) (fun _ => nI ld) pl z 99 0 k) H → stOK z (rn k) → RMem B z k (rn k) H' → (∀ b, b ≠ 137 → b ≠ 138 → Lk b = L1 b) → (∀ j, j < k → Lk 137 j = lN (pkN (rn (j + 1)) 0 (min 5 (z - 0))) ∧ Lk 138 j = lN (pkN (rn (j + 1)) 5 (min 5 (z - 5)))) → (∀ j, j < k → ∀ i, i < z → H' 24 (10 * j + i) = (rn (j + 1) i).1 ∧ H' 25 (10 * j + i) = (rn (j + 1) i).2.1) → ∃ (G1 : Mem) (L2 : MemL) (G1' : Mem) (v : Int32), iter (q_X11_round_38 S (nI w) (nI ld) (nI wt)) f (H, Lk, up2 O 128 12 (some (2000 + 4 * r)), nI k) = some (G1, L2, up2 O 128 12 (some (2000 + 4 * r)), v) ∧ iter (q_X12_round_44 (nI w) (nI ld) (nI wt)) f (H', nI k) = some (G1', v) ∧ (∃ j st th, CMem C z j 99 0 st th G1) ∧ ∀ b, ¬ scR b → G1' b = B b := by
      intro f
      induction f with
      | zero => intro k H H' Lk _ h; omega
      | succ f ih =>
        intro k H H' Lk hk hf a1 a2 a3 a4 a5 a6
        show ∃ (G1 : Mem) (L2 : MemL) (G1' : Mem) (v : Int32), q_X11_round_38 S (nI w) (nI ld) (nI wt) (iter (q_X11_round_38 S (nI w) (nI ld) (nI wt)) f) (H, Lk, up2 O 128 12 (some (2000 + 4 * r)), nI k) = some (G1, L2, up2 O 128 12 (some (2000 + 4 * r)), v) ∧ q_X12_round_44 (nI w) (nI ld) (nI wt) (iter (q_X12_round_44 (nI w) (nI ld) (nI wt)) f) (H', nI k) = some (G1', v) ∧ _
        generalize iter (q_X11_round_38 S (nI w) (nI ld) (nI wt)) f = rec1 at ih ⊢
        generalize iter (q_X12_round_44 (nI w) (nI ld) (nI wt)) f = rec2 at ih ⊢
        unfold q_X11_round_38 q_X12_round_44
        show ∃ (G1 : Mem) (L2 : MemL) (G1' : Mem) (v : Int32), (if (200 : Int32) ≤ nI k then _ else _) = some (G1, L2, up2 O 128 12 (some (2000 + 4 * r)), v) ∧ (if (200 : Int32) ≤ nI k then _ else _) = some (G1', v) ∧ _
        by_cases hk2 : k = 200
        · subst hk2
          rw [if_pos (show (200 : Int32) ≤ nI 200 by decide), if_pos (show (200 : Int32) ≤ nI 200 by decide)]
          exact ⟨H, Lk, H', -1, rfl, rfl, ⟨_, _, _, a1⟩, a3.1⟩
        rw [if_neg (show ¬ (200 : Int32) ≤ nI k from nI_ge (b := 200) (by omega) (by decide)), if_neg (show ¬ (200 : Int32) ≤ nI k from nI_ge (b := 200) (by omega) (by decide))]
        obtain ⟨Gz, g1, g2, g3⟩ := stepC (lo := fun _ => nI ld) (hCCL Lk) (show k < 200 by omega) (by rw [← hrn]; exact a2) (by rw [← hrn]; exact a1)
        rw [← hrn] at g2 g3
        obtain ⟨Gy, y1, y2, y3⟩ := go12 (k := k) (ls := 99) (lk := 0) hCR (show k < 200 by omega) (Or.inr ⟨e36, by omega⟩) a3
        have y2' : RMem B z (k + 1) (rn (k + 1)) Gy := by rw [hrn] at y2 ⊢; exact y2
        have gz11 : Gz 128 11 = nI z := by rw [g2.2.1 11 (by decide)]; exact hCC.2.2.2.1
        have grow : ∀ i, i < z → Gz 130 i = (rn (k + 1) i).1 ∧ Gz 131 i = (rn (k + 1) i).2.1 := fun i hi => ⟨(g2.2.2.1 i hi (by omega)).1, (g2.2.2.1 i hi (by omega)).2.1⟩
        have s0 := state11 (C := C) (ls := 0) (lk := 0) (k1 := 0) (th := fun _ => 0) hz (Or.inl rfl) gz11 grow (hrd (k + 1) (by omega))
        have s5 := state11 (C := C) (ls := 0) (lk := 0) (k1 := 0) (th := fun _ => 0) hz (Or.inr rfl) gz11 grow (hrd (k + 1) (by omega))
        have hb200 : inB (nI k) 200 = true := inB_n (by omega) (by decide)
        rw [g1, bndO_e, show f_X1_stateOf Gz 0 5 = _ from s0, bndO_e, chk_t hb200, bnd_e, show f_X1_stateOf Gz 5 10 = _ from s5, bndO_e, chk_t hb200, bnd_e, nI_clamp (show k < 2 ^ 31 by omega), y1, bndO_e]
        obtain ⟨L2, hL2⟩ : ∃ x, x = up2 (up2 Lk 137 k (lN (pkN (rn (k + 1)) 0 (min 5 (z - 0))))) 138 k (lN (pkN (rn (k + 1)) 5 (min 5 (z - 5)))) := ⟨_, rfl⟩
        rw [← hL2]
        have l2n : ∀ b, b ≠ 137 → b ≠ 138 → L2 b = L1 b := fun b h1 h2 => by rw [hL2, up2_n _ _ _ h2, up2_n _ _ _ h1]; exact a4 b h1 h2
        have l2p : ∀ j, j ≤ k → L2 137 j = lN (pkN (rn (j + 1)) 0 (min 5 (z - 0))) ∧ L2 138 j = lN (pkN (rn (j + 1)) 5 (min 5 (z - 5))) := by
          intro j hj
          rw [hL2, up2_n _ _ _ (show (137 : Nat) ≠ 138 by decide)]
          by_cases hjk : j = k
          · subst hjk
            rw [up2_aa, up2_aa]
            exact ⟨rfl, rfl⟩
          · rw [up2_an _ _ _ hjk, up2_an _ _ _ hjk, up2_n _ _ _ (show (138 : Nat) ≠ 137 by decide)]
            exact a5 j (by omega)
        rw [earl11 (n := z) (rn := rn) hz (by omega) (fun j hj => hrd (j + 1) (by omega)) l2p, bndO_e]
        -- the reference's rows
        obtain ⟨Gw, hGw⟩ : ∃ x, x = rgR (rgR Gy 24 (10 * k) z (fun i => (rn (k + 1) i).1)) 25 (10 * k) z (fun i => (rn (k + 1) i).2.1) := ⟨_, rfl⟩
        have gwn : ∀ b, b ≠ 24 → b ≠ 25 → Gw b = Gy b := fun b h1 h2 => by rw [hGw, rgR_n h2, rgR_n h1]
        have y4 : ∀ b, 22 < b → Gy b = H' b := y3
        have gwp : ∀ j, j < k + 1 → ∀ i, i < z → Gw 24 (10 * j + i) = (rn (j + 1) i).1 ∧ Gw 25 (10 * j + i) = (rn (j + 1) i).2.1 := by
          intro j hj i hi
          by_cases hjk : j = k
          · subst hjk
            rw [hGw, rgR_n (q := 24) (by decide), rgR_in hi, rgR_in hi]
            exact ⟨rfl, rfl⟩
          · rw [hGw, rgR_n (q := 24) (by decide), rgR_out (by omega), rgR_out (by omega), rgR_n (q := 25) (by decide), y4 24 (by decide), y4 25 (by decide)]
            exact a6 j (by omega) i hi
        have mw : RMem B z (k + 1) (rn (k + 1)) Gw := by
          refine ⟨fun b hb => ?_, fun i hi => ?_⟩
          · have hb' := hb
            unfold scR at hb'
            rw [gwn b (by omega) (by omega)]
            exact y2'.1 b hb
          · rw [gwn 18 (by decide) (by decide), gwn 19 (by decide) (by decide), gwn 20 (by decide) (by decide), gwn 21 (by decide) (by decide)]
            exact y2'.2 i hi
        have w7 : Gw 0 7 = nI z := by rw [mw.1 0 (by unfold scR; omega)]; exact h7
        have l120 : iter (q_X12_round_120 (nI w) (nI ld) (nI wt) rec2) fuel (Gw, nI k, 0) = match fstI (fun j => eqS z (rn (j + 1)) (rn (k + 1))) k with
            | some j => some (Gw, if wt = 0 then nI k else nI j)
            | none => rec2 (Gw, nI (k + 1)) := by
          refine iter_fuel (q_X12_round_120 (nI w) (nI ld) (nI wt) rec2) (fun j a => a = (Gw, nI k, nI j) ∧ ∀ q, q < j → eqS z (rn (q + 1)) (rn (k + 1)) = false) (fun q => q = match fstI (fun j => eqS z (rn (j + 1)) (rn (k + 1))) k with
            | some j => some (Gw, if wt = 0 then nI k else nI j)
            | none => rec2 (Gw, nI (k + 1))) k (by omega) ?_ ?_ ⟨rfl, fun q hq => by omega⟩
          · rintro j a hj ⟨rfl, h⟩ rec3
            unfold q_X12_round_120
            show (∃ a', _ ∧ (if nI k ≤ nI j then _ else _) = rec3 a') ∨ (if nI k ≤ nI j then _ else _) = _
            rw [if_neg (nI_ge hj (by omega)), like12 (rn := rn) hz w7 (by omega) (by omega) (fun q hq i hi => gwp q (by omega) i hi), bndO_e]
            cases he : eqS z (rn (j + 1)) (rn (k + 1)) with
            | false =>
              left
              rw [if_pos (show b2 false = 0 from rfl), bnd_e, nI_1]
              refine ⟨_, ⟨rfl, fun q hq => ?_⟩, rfl⟩
              by_cases hqj : q = j
              · rw [hqj]; exact he
              · exact h q (by omega)
            | true =>
              right
              rw [if_neg (show ¬ b2 true = 0 by decide), fstI_some (P := fun j => eqS z (rn (j + 1)) (rn (k + 1))) hj h he]
              by_cases hwt0 : wt = 0
              · subst hwt0
                rw [if_pos (show nI 0 = (0 : Int32) from rfl)]
                rfl
              · rw [if_neg (nI_ne0 (by omega) (by omega))]
                show _ = some (Gw, if wt = 0 then nI k else nI j)
                rw [if_neg hwt0]
          · rintro a ⟨rfl, h⟩ rec3
            unfold q_X12_round_120
            show (if nI k ≤ nI k then _ else _) = _
            rw [if_pos (nI_le (Nat.le_refl _) (by omega)), bnd_e, nI_1, fstI_none (P := fun j => eqS z (rn (j + 1)) (rn (k + 1))) h]
        have l62 : iter (q_X12_round_62 (nI w) (nI ld) (nI wt) rec2) fuel (Gy, nI k, 0) = match fstI (fun j => eqS z (rn (j + 1)) (rn (k + 1))) k with
            | some j => some (Gw, if wt = 0 then nI k else nI j)
            | none => rec2 (Gw, nI (k + 1)) := by
          refine iter_fuel (q_X12_round_62 (nI w) (nI ld) (nI wt) rec2) (fun i a => a = (rgR (rgR Gy 24 (10 * k) i (fun i => (rn (k + 1) i).1)) 25 (10 * k) i (fun i => (rn (k + 1) i).2.1), nI k, nI i)) (fun q => q = match fstI (fun j => eqS z (rn (j + 1)) (rn (k + 1))) k with
            | some j => some (Gw, if wt = 0 then nI k else nI j)
            | none => rec2 (Gw, nI (k + 1))) z (by omega) ?_ ?_ (by rw [rgR_0, rgR_0]; rfl)
          · rintro i a hi rfl rec3
            left
            refine ⟨(rgR (rgR Gy 24 (10 * k) (i + 1) (fun i => (rn (k + 1) i).1)) 25 (10 * k) (i + 1) (fun i => (rn (k + 1) i).2.1), nI k, nI (i + 1)), rfl, ?_⟩
            unfold q_X12_round_62
            obtain ⟨T, hT⟩ : ∃ x, x = rgR (rgR Gy 24 (10 * k) i (fun i => (rn (k + 1) i).1)) 25 (10 * k) i (fun i => (rn (k + 1) i).2.1) := ⟨_, rfl⟩
            have tn : ∀ b, b ≠ 24 → b ≠ 25 → T b = Gy b := fun b h1 h2 => by rw [hT, rgR_n h2, rgR_n h1]
            rw [← hT]
            show (if T 0 7 ≤ nI i then _ else _) = _
            have e10 : (10 : Int32) * nI k + nI i = nI (10 * k + i) := by rw [show (10 : Int32) = nI 10 from rfl, mulI, nI_add]
            have hb10 : inB (nI i) 10 = true := inB_n (by omega) (by decide)
            have hb2k : inB (nI (10 * k + i)) 2000 = true := inB_n (by omega) (by decide)
            rw [tn 0 (by decide) (by decide), y2'.1 0 (by unfold scR; omega), h7, if_neg (nI_ge hi (by omega)), e10, chk_t hb10, chk_t hb2k, bnd_e, chk_t hb10, chk_t hb2k, bnd_e, bnd_e, nI_1, nI_clamp (show i < 2 ^ 31 by omega), nI_clamp (show 10 * k + i < 2 ^ 31 by omega), tn 18 (by decide) (by decide), up2_o (b := 19) (Or.inl (by decide)), tn 19 (by decide) (by decide), (y2'.2 i hi).1, (y2'.2 i hi).2.1]
            have st1 : up2 T 24 (10 * k + i) (rn (k + 1) i).1 = rgR (rgR Gy 24 (10 * k) (i + 1) (fun i => (rn (k + 1) i).1)) 25 (10 * k) i (fun i => (rn (k + 1) i).2.1) := by
              have q := rgR_s (G := Gy) (b := 24) (a := 10 * k) (k := i) (f := fun i => (rn (k + 1) i).1)
              rw [← q, hT]
              funext b j
              by_cases hb : b = 25
              · subst hb
                rw [up2_o (Or.inl (by decide)), rgR_b, rgR_b, up2_o (Or.inl (by decide))]
              · rw [rgR_n hb]
                by_cases hb4 : b = 24 ∧ j = 10 * k + i
                · obtain ⟨rfl, rfl⟩ := hb4
                  rw [up2_aa, up2_aa]
                · rw [up2_o (by omega), up2_o (by omega), rgR_n hb]
            have st2 := rgR_s (G := rgR Gy 24 (10 * k) (i + 1) (fun i => (rn (k + 1) i).1)) (b := 25) (a := 10 * k) (k := i) (f := fun i => (rn (k + 1) i).2.1)
            rw [st1, st2]
          · rintro a rfl rec3
            unfold q_X12_round_62
            rw [← hGw]
            show (if Gw 0 7 ≤ nI z then _ else _) = _
            rw [w7, if_pos (nI_le (Nat.le_refl _) (by omega)), l120]
        rw [l62]
        cases hfi : fstI (fun j => eqS z (rn (j + 1)) (rn (k + 1))) k with
        | none =>
          show ∃ (G1 : Mem) (L2 : MemL) (G1' : Mem) (v : Int32), (if (-1 : Int32) = -1 then _ else _) = some (G1, L2, up2 O 128 12 (some (2000 + 4 * r)), v) ∧ rec2 (Gw, nI (k + 1)) = some (G1', v) ∧ _
          rw [if_pos rfl, bnd_e, nI_1]
          exact ih (k + 1) Gz Gw L2 (by omega) (by omega) (by rw [hrn] at g2 ⊢; exact g2) g3 mw l2n (fun j hj => l2p j (by omega)) gwp
        | some j =>
          show ∃ (G1 : Mem) (L2 : MemL) (G1' : Mem) (v : Int32), (if nI j = -1 then _ else _) = some (G1, L2, up2 O 128 12 (some (2000 + 4 * r)), v) ∧ some (Gw, if wt = 0 then nI k else nI j) = some (G1', v) ∧ _
          have hjk : j < k := by
            have : ∀ m, fstI (fun j => eqS z (rn (j + 1)) (rn (k + 1))) m = some j → j < m := by
              intro m
              induction m with
              | zero => intro q; cases q
              | succ m ihm =>
                intro q
                unfold fstI at q
                cases hq : fstI (fun j => eqS z (rn (j + 1)) (rn (k + 1))) m with
                | some i =>
                  rw [hq] at q
                  cases q
                  have := ihm hq
                  omega
                | none =>
                  rw [hq] at q
                  simp only at q
                  split at q
                  · cases q; omega
                  · cases q
            exact this k hfi
          rw [if_neg (nIm1 (by omega))]
          by_cases hwt0 : wt = 0
          · subst hwt0
            rw [if_pos (show nI 0 = (0 : Int32) from rfl), if_pos rfl]
            exact ⟨Gz, L2, Gw, nI k, rfl, rfl, ⟨_, _, _, g2⟩, mw.1⟩
          · rw [if_neg (nI_ne0 (by omega) (by omega)), if_neg hwt0]
            exact ⟨Gz, L2, Gw, nI j, rfl, rfl, ⟨_, _, _, g2⟩, mw.1⟩
    obtain ⟨G1, L2, G1', v, k1, k2, ⟨j, st, th, k3⟩, k4⟩ := key fuel 0 C B L1 (by omega) (by unfold fuel; omega) (by rw [hrn0]; exact h5) (by rw [hrn0]; exact stOK_0) (by rw [hrn0]; exact hM) (fun _ _ _ => rfl) (fun j hj => by omega) (fun j hj => by omega)
    exact ⟨G1, L2, _, G1', v, k1, k2, h6, runE hR (fun b hb => h4 b (fun q => hb (q.elim Or.inl (fun h => Or.inr (Or.inl h))))) k3 bn b0 (fun b hb => k4 b (fun q => hb (Or.inl q)))⟩
  unfold f_X11_round f_X12_round
  by_cases h0 : x1 = 0
  · rw [if_pos h0, if_pos h0]
    exact main (Or.inl h0)
  · by_cases h6 : x1 = 6
    · rw [if_neg h0, if_pos h6, if_neg h0, if_pos h6]
      exact main (Or.inr h6)
    · exact bad (by rw [if_neg h0, if_neg h6]) (by rw [if_neg h0, if_neg h6])
