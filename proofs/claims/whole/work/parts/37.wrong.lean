/-- the first place where something holds -/
def fstI (P : Nat → Bool) : Nat → Option Nat
  | 0 => none
  | n + 1 => match fstI P n with
    | some i => some i
    | none => if P n then some n else none
theorem fstI_none {P : Nat → Bool} {n : Nat} (h : ∀ j, j < n → P j = false) : fstI P n = none := by
  induction n with
  | zero => rfl
  | succ n ih =>
    unfold fstI
    rw [ih (fun j hj => h j (by omega))]
    show (if P n then some n else none) = none
    rw [if_neg (by rw [h n (by omega)]; decide)]
theorem fstI_some {P : Nat → Bool} {n i : Nat} (hi : i < n) (h : ∀ j, j < i → P j = false) (hp : P i = true) : fstI P n = some i := by
  induction n with
  | zero => omega
  | succ n ih =>
    unfold fstI
    by_cases hin : i < n
    · rw [ih hin]
    · have : i = n := by omega
      subst this
      rw [fstI_none h]
      show (if P i then some i else none) = some i
      rw [if_pos hp]
/-- a search from the front: the value at the first place, or what stands behind the loop -/
theorem fst_loop {β : Type} (b : (Int32 → Option β) → Int32 → Option β) (P : Nat → Bool) (n : Nat) (hn : n < 100000) (val : Nat → Option β) (after : Option β) (hs : ∀ k, k < n → ∀ rec, b rec (nI k) = if P k then val k else rec (nI (k + 1))) (he : ∀ rec, b rec (nI n) = after) : iter b fuel 0 = match fstI P n with
    | some i => val i
    | none => after := by
  refine iter_fuel b (fun k a => a = nI k ∧ ∀ j, j < k → P j = false) (fun q => q = match fstI P n with
    | some i => val i
    | none => after) n hn ?_ ?_ ⟨rfl, fun j hj => by omega⟩
  · rintro k a hk ⟨rfl, h⟩ rec
    rw [hs k hk rec]
    cases hp : P k with
    | true =>
      right
      rw [if_pos rfl, fstI_some hk h hp]
    | false =>
      left
      rw [if_neg (by decide)]
      refine ⟨nI (k + 1), ⟨rfl, fun j hj => ?_⟩, rfl⟩
      by_cases hjk : j = k
      · rw [hjk]; exact hp
      · exact h j (by omega)
  · rintro a ⟨rfl, h⟩ rec
    rw [he rec, fstI_none h]
theorem fst_loop2 {β : Type} (x : Int32) (b : (Int32 × Int32 → Option β) → Int32 × Int32 → Option β) (P : Nat → Bool) (n : Nat) (hn : n < 100000) (val : Nat → Option β) (after : Option β) (hs : ∀ k, k < n → ∀ rec, b rec (x, nI k) = if P k then val k else rec (x, nI (k + 1))) (he : ∀ rec, b rec (x, nI n) = after) : iter b fuel (x, 0) = match fstI P n with
    | some i => val i
    | none => after := by
  refine iter_fuel b (fun k a => a = (x, nI k) ∧ ∀ j, j < k → P j = false) (fun q => q = match fstI P n with
    | some i => val i
    | none => after) n hn ?_ ?_ ⟨rfl, fun j hj => by omega⟩
  · rintro k a hk ⟨rfl, h⟩ rec
    rw [hs k hk rec]
    cases hp : P k with
    | true =>
      right
      rw [if_pos rfl, fstI_some hk h hp]
    | false =>
      left
      rw [if_neg (by decide)]
      refine ⟨(x, nI (k + 1)), ⟨rfl, fun j hj => ?_⟩, rfl⟩
      by_cases hjk : j = k
      · rw [hjk]; exact hp
      · exact h j (by omega)
  · rintro a ⟨rfl, h⟩ rec
    rw [he rec, fstI_none h]
noncomputable def wP1 (B : Mem) (st : Nat → Sg) (loud : Int32) (i : Nat) : Bool := (st i).2.2.2 && decide (¬ (st i).1 ≤ capS (B 5 i) (B 7 i) (B 8 i) (st i).2.2.1 loud)
def wP2 (st : Nat → Sg) (i : Nat) : Bool := !(st i).2.2.2 && !(st (i + 1)).2.2.2
def wP3 (th : Nat → Int32) (echo : Int32) (v : Nat) : Bool := decide (¬ th v ≤ echo)
def wC (B : Mem) (n : Nat) (st : Nat → Sg) (loud : Int32) : Nat := cntB (fun i => (st i).2.2.2 && decide (¬ saS (B 5 i) (B 8 i) loud = 0)) n
noncomputable def wrS (B : Mem) (n : Nat) (st : Nat → Sg) (th : Nat → Int32) (loud echo hiss : Int32) : Int32 := match fstI (wP1 B st loud) n with
  | some i => nI (100 + i)
  | none => match fstI (wP2 st) (n - 1) with
    | some i => nI (200 + i)
    | none => match fstI (wP3 th echo) 4 with
      | some v => nI (300 + v)
      | none => if hiss = 1 then (if wC B n st loud = 0 ∨ 3 < wC B n st loud then 400 else -1) else -1
theorem opt_match {o : Option Nat} {f : Nat → Int32} {a : Int32} {g : Nat → Option Int32} {b : Option Int32} (h1 : ∀ i, g i = some (f i)) (h2 : b = some a) : (match o with | some i => g i | none => b) = some (match o with | some i => f i | none => a) := by
  cases o with
  | some i => exact h1 i
  | none => exact h2
theorem wrong12 {B : Mem} {n k m : Nat} {st : Nat → Sg} {th : Nat → Int32} {G : Mem} (hn : n ≤ 10) (h7 : B 0 7 = nI n) (hm : m < 48) (hk : 0 < k) (hG : RMem B n k st G) (hth : ∀ v, v < 4 → G 23 v = th v) (hh : rgB (B 3 m) 2) : f_X12_wrongIn G (nI m) = some (wrS B n st th (B 1 m) (B 0 2) (B 3 m)) := by
  have r : ∀ b, ¬ scR b → G b = B b := hG.1
  have g7 : G 0 7 = nI n := by rw [r 0 (by unfold scR; omega)]; exact h7
  have hbm : inB (nI m) 48 = true := inB_n hm (by decide)
  have hcm : (nI m).toNatClampNeg = m := nI_clamp (by omega)
  have h21 : ∀ i, i < n → G 21 i = b2 (st i).2.2.2 := fun i hi => by
    rcases (hG.2 i hi).2.2.2 with h | h
    · omega
    · exact h.2
  have l4 : iter (q_X12_wrongIn_142 G (nI m)) fuel (0, 0) = some (if wC B n st (B 1 m) = 0 ∨ 3 < wC B n st (B 1 m) then 400 else -1) := by
    refine iter_fuel (q_X12_wrongIn_142 G (nI m)) (fun j a => a = (nI (cntB (fun i => (st i).2.2.2 && decide (¬ saS (B 5 i) (B 8 i) (B 1 m) = 0)) j), nI j)) (fun q => q = some (if wC B n st (B 1 m) = 0 ∨ 3 < wC B n st (B 1 m) then 400 else -1)) n (by omega) ?_ ?_ rfl
    · rintro j a hj rfl rec
      refine Or.inl ⟨(nI (cntB (fun i => (st i).2.2.2 && decide (¬ saS (B 5 i) (B 8 i) (B 1 m) = 0)) (j + 1)), nI (j + 1)), rfl, ?_⟩
      unfold q_X12_wrongIn_142
      show (if G 0 7 ≤ nI j then _ else _) = _
      have hb : inB (nI j) 10 = true := inB_n (by omega) (by decide)
      have hc : (nI j).toNatClampNeg = j := nI_clamp (by omega)
      rw [g7, if_neg (nI_ge hj (by omega)), chk_t hb, hc, h21 j hj]
      cases hbb : (st j).2.2.2 with
      | false => rw [if_pos (show b2 false = 0 from rfl), bnd_e, bnd_e, Int32.add_zero, nI_1, cntB_f (by simp [hbb])]
      | true =>
        rw [if_neg (show ¬ b2 true = 0 by decide), chk_t hbm, hcm, r 1 (by unfold scR; omega), sa12 G hb hc, bndO_e, r 5 (by unfold scR; omega), r 8 (by unfold scR; omega)]
        by_cases hs : saS (B 5 j) (B 8 j) (B 1 m) = 0
        · rw [if_pos hs, bnd_e, bnd_e, Int32.add_zero, nI_1, cntB_f (by simp [hs])]
        · rw [if_neg hs, bnd_e, bnd_e, nI_1, nI_1, cntB_t (by simp [hbb, hs])]
    · rintro a rfl rec
      unfold q_X12_wrongIn_142
      show (if G 0 7 ≤ nI n then _ else _) = _
      have hle : cntB (fun i => (st i).2.2.2 && decide (¬ saS (B 5 i) (B 8 i) (B 1 m) = 0)) n ≤ n := cntB_le _ _
      rw [g7, if_pos (nI_le (Nat.le_refl _) (by omega))]
      show (if nI (wC B n st (B 1 m)) = 0 then _ else if nI (wC B n st (B 1 m)) ≤ 3 then _ else _) = _
      have hwl : wC B n st (B 1 m) ≤ n := hle
      by_cases h0 : wC B n st (B 1 m) = 0
      · rw [if_pos (by rw [h0]; rfl), if_pos (Or.inl h0)]
      · rw [if_neg (nI_ne0 (by omega) (by omega))]
        by_cases h3 : 3 < wC B n st (B 1 m)
        · rw [if_neg (show ¬ nI _ ≤ (3 : Int32) from nI_ge (a := 3) h3 (by omega)), if_pos (Or.inr h3)]
        · rw [if_pos (show nI _ ≤ (3 : Int32) from nI_le (b := 3) (by omega) (by decide)), if_neg (by omega)]
  have l3 : iter (q_X12_wrongIn_102 G (nI m)) fuel 0 = some (match fstI (wP3 th (B 0 2)) 4 with
      | some v => nI (300 + v)
      | none => if B 3 m = 1 then (if wC B n st (B 1 m) = 0 ∨ 3 < wC B n st (B 1 m) then 400 else -1) else -1) := by
    rw [fst_loop (q_X12_wrongIn_102 G (nI m)) (wP3 th (B 0 2)) 4 (by decide) (fun v => some (nI (300 + v))) (some (if B 3 m = 1 then (if wC B n st (B 1 m) = 0 ∨ 3 < wC B n st (B 1 m) then 400 else -1) else -1)) ?_ ?_]
    · exact opt_match (fun _ => rfl) rfl
    · intro v hv rec
      unfold q_X12_wrongIn_102 f_X12_isHeard
      rw [if_neg (show ¬ (4 : Int32) ≤ nI v from nI_ge (b := 4) hv (by decide)), chk_t (inB_n hv (by decide)), nI_clamp (by omega), hth v hv, r 0 (by unfold scR; omega)]
      unfold wP3
      by_cases h : th v ≤ B 0 2
      · rw [if_pos h, bndO_e, if_pos rfl, bnd_e, nI_1, if_neg (by rw [decide_eq_false (fun q => q h)]; decide)]
      · rw [if_neg h, bndO_e, if_neg i10, if_pos (decide_eq_true h)]
        exact congrArg some (nI_add 300 v)
    · intro rec
      unfold q_X12_wrongIn_102
      rw [if_pos (show (4 : Int32) ≤ nI 4 from by decide), chk_t hbm, hcm, r 3 (by unfold scR; omega), l4]
      obtain ⟨q, hq, hqe⟩ := hh
      rw [hqe]
      rcases (show q = 0 ∨ q = 1 by omega) with rfl | rfl
      · rw [if_pos (show nI 0 = (0 : Int32) from rfl), if_neg (show ¬ nI 0 = (1 : Int32) by decide)]
      · rw [if_neg (show ¬ nI 1 = (0 : Int32) by decide), if_pos (show nI 1 = (1 : Int32) from rfl)]
  have l2 : iter (q_X12_wrongIn_58 G (nI m)) fuel 0 = some (match fstI (wP2 st) (n - 1) with
      | some i => nI (200 + i)
      | none => match fstI (wP3 th (B 0 2)) 4 with
        | some v => nI (300 + v)
        | none => if B 3 m = 1 then (if wC B n st (B 1 m) = 0 ∨ 3 < wC B n st (B 1 m) then 400 else -1) else -1) := by
    rw [fst_loop (q_X12_wrongIn_58 G (nI m)) (wP2 st) (n - 1) (by omega) (fun i => some (nI (200 + i))) _ ?_ (fun rec => ?_)]
    · exact opt_match (fun _ => rfl) l3
    · intro i hi rec
      unfold q_X12_wrongIn_58
      rw [nI_1, g7, if_neg (nI_ge (by omega) (by omega)), chk_t (inB_n (show i < 10 by omega) (by decide)), nI_clamp (show i < 2 ^ 31 by omega), h21 i (by omega), chk_t (inB_n (show i + 1 < 10 by omega) (by decide)), nI_clamp (show i + 1 < 2 ^ 31 by omega), h21 (i + 1) (by omega)]
      unfold wP2
      cases h1 : (st i).2.2.2 with
      | true => rw [if_neg (show ¬ b2 true = 0 by decide), bnd_e]; rfl
      | false =>
        rw [if_pos (show b2 false = 0 from rfl)]
        cases h2 : (st (i + 1)).2.2.2 with
        | true => rw [if_neg (show ¬ b2 true = 0 by decide), bnd_e]; rfl
        | false =>
          rw [if_pos (show b2 false = 0 from rfl)]
          exact congrArg some (nI_add 200 i)
    · unfold q_X12_wrongIn_58
      rw [nI_1, g7, if_pos (nI_le (by omega) (by omega))]
  unfold f_X12_wrongIn wrS
  rw [fst_loop (q_X12_wrongIn_2 G (nI m)) (wP1 B st (B 1 m)) n (by omega) (fun i => some (nI (100 + i))) _ ?_ (fun rec => ?_)]
  · exact opt_match (fun _ => rfl) l2
  · intro i hi rec
    unfold q_X12_wrongIn_2
    have hb : inB (nI i) 10 = true := inB_n (by omega) (by decide)
    have hc : (nI i).toNatClampNeg = i := nI_clamp (by omega)
    rw [g7, if_neg (nI_ge hi (by omega))]
    simp only [chk_t hb, hc]
    rw [h21 i hi]
    unfold wP1
    cases h1 : (st i).2.2.2 with
    | false => rw [if_pos (show b2 false = 0 from rfl), bnd_e, nI_1]; rfl
    | true =>
      rw [if_neg (show ¬ b2 true = 0 by decide), chk_t hbm, hcm, cap12 G hb hc, bndO_e, (hG.2 i hi).1, (hG.2 i hi).2.2.1, r 1 (by unfold scR; omega), r 5 (by unfold scR; omega), r 7 (by unfold scR; omega), r 8 (by unfold scR; omega)]
      by_cases h : (st i).1 ≤ capS (B 5 i) (B 7 i) (B 8 i) (st i).2.2.1 (B 1 m)
      · rw [if_pos h, bnd_e, nI_1, decide_eq_false (fun q => q h)]; rfl
      · rw [if_neg h, decide_eq_true h]
        exact congrArg some (nI_add 100 i)
  · unfold q_X12_wrongIn_2
    rw [g7, if_pos (nI_le (Nat.le_refl _) (by omega))]
theorem wrong11 {C : Mem} {L : MemL} {O : MemO} {S : Nat → Nat} {B : Mem} {ev : Nat → (Nat → Int32) → Int32} {w r : Nat} {pl : Nat → Nat → Bool} {n km k m : Nat} {st : Nat → Sg} {th : Nat → Int32} {G : Mem} (hC : CxC C L O S B ev w r pl n km 99 0) (hm : m < 48) (hG : CMem C n k 99 0 st th G) (h1 : C 102 m = B 1 m) (h2 : C 101 6 = B 0 2) (h3 : C 104 m = B 3 m) : f_X1_wrongHere G O S (nI m) = some (wrS B n st th (B 1 m) (B 0 2) (B 3 m)) := by
  obtain ⟨hn, hw, c10, c11, c14, csg, cbar, cle, cme, crl, ckm, cpl, ckm2⟩ := hC
  have r : ∀ b, ¬ scC b → G b = C b := hG.1
  have g11 : G 128 11 = nI n := by rw [hG.2.1 11 (by decide)]; exact c11
  have g13 := hG.2.2.2.1
  have hbm : inB (nI m) 48 = true := inB_n hm (by decide)
  have hcm : (nI m).toNatClampNeg = m := nI_clamp (by omega)
  have row : ∀ i, i < n → G 130 i = (st i).1 ∧ G 131 i = (st i).2.1 ∧ G 132 i = (st i).2.2.1 := fun i hi => hG.2.2.1 i hi (by omega)
  have sil : ∀ i, i < n → f_X1_isSilent G (nI i) = b2 (!(st i).2.2.2) := fun i hi => sil11 hn g11 g13 hi
  have hsaid : f_X1_isSaid G O S (B 1 m) = some (if wC B n st (B 1 m) = 0 ∨ 3 < wC B n st (B 1 m) then 0 else 1) := by
    unfold f_X1_isSaid
    refine iter_fuel (q_X1_isSaid_4 G O S (B 1 m)) (fun j a => a = (nI (cntB (fun i => (st i).2.2.2 && decide (¬ saS (B 5 i) (B 8 i) (B 1 m) = 0)) j), nI j)) (fun q => q = some (if wC B n st (B 1 m) = 0 ∨ 3 < wC B n st (B 1 m) then 0 else 1)) n (by omega) ?_ ?_ rfl
    · rintro j a hj rfl rec
      refine Or.inl ⟨(nI (cntB (fun i => (st i).2.2.2 && decide (¬ saS (B 5 i) (B 8 i) (B 1 m) = 0)) (j + 1)), nI (j + 1)), rfl, ?_⟩
      unfold q_X1_isSaid_4
      show (if G 128 11 ≤ nI j then _ else _) = _
      obtain ⟨s1, s2, s3, s4, s5, s6, s7, s8, s9⟩ := csg j hj
      rw [g11, if_neg (nI_ge hj (by omega)), sil j hj]
      cases hbb : (st j).2.2.2 with
      | false => rw [if_neg (show ¬ b2 (!false) = 0 by decide), bnd_e, nI_1, cntB_f (by simp [hbb])]
      | true =>
        rw [if_pos (show b2 (!true) = 0 from rfl), chk_t (inB_n (show j < 10 by omega) (by decide)), nI_clamp (by omega), s1, bndO_e, chk_t (sgE_k (by omega) s2 s6), sa11 G s2 s6, r (1000 + j) (by unfold scC; omega), s5]
        by_cases hs : saS (B 5 j) (B 8 j) (B 1 m) = 0
        · rw [if_pos hs, bnd_e, nI_1, cntB_f (by simp [hs])]
        · rw [if_neg hs, bnd_e, bnd_e, nI_1, nI_1, cntB_t (by simp [hbb, hs])]
    · rintro a rfl rec
      unfold q_X1_isSaid_4
      show (if G 128 11 ≤ nI n then _ else _) = _
      have hwl : wC B n st (B 1 m) ≤ n := cntB_le _ _
      rw [g11, if_pos (nI_le (Nat.le_refl _) (by omega))]
      show (if nI (wC B n st (B 1 m)) < 1 then _ else if 3 < nI (wC B n st (B 1 m)) then _ else _) = _
      by_cases h0 : wC B n st (B 1 m) = 0
      · rw [if_pos (by rw [h0]; decide), if_pos (Or.inl h0)]
      · rw [if_neg (show ¬ nI _ < (1 : Int32) from nI_nlt (b := 1) (by omega) (by omega))]
        by_cases h3 : 3 < wC B n st (B 1 m)
        · rw [if_pos (show (3 : Int32) < nI _ from nI_lt (a := 3) h3 (by omega)), if_pos (Or.inr h3)]
        · rw [if_neg (show ¬ (3 : Int32) < nI _ from nI_nlt (a := 3) (by omega) (by decide)), if_neg (by omega)]
  have l3 : iter (q_X1_wrongHere_108 G O S (nI m)) fuel (B 1 m, 0) = some (match fstI (wP3 th (B 0 2)) 4 with
      | some v => nI (300 + v)
      | none => if B 3 m = 1 then (if wC B n st (B 1 m) = 0 ∨ 3 < wC B n st (B 1 m) then 400 else -1) else -1) := by
    rw [fst_loop2 (B 1 m) (q_X1_wrongHere_108 G O S (nI m)) (wP3 th (B 0 2)) 4 (by decide) (fun v => some (nI (300 + v))) (some (if B 3 m = 1 then (if wC B n st (B 1 m) = 0 ∨ 3 < wC B n st (B 1 m) then 400 else -1) else -1)) ?_ ?_]
    · exact opt_match (fun _ => rfl) rfl
    · intro v hv rec
      unfold q_X1_wrongHere_108 f_X1_isHeard
      show (if (4 : Int32) ≤ nI v then _ else _) = _
      rw [if_neg (show ¬ (4 : Int32) ≤ nI v from nI_ge (b := 4) hv (by decide)), chk_t (inB_n hv (by decide)), nI_clamp (by omega), hG.2.2.2.2 v hv, r 101 (by unfold scC; omega), h2]
      unfold wP3
      by_cases h : th v ≤ B 0 2
      · rw [if_pos h, bndO_e, if_pos rfl, bnd_e, nI_1, if_neg (by rw [decide_eq_false (fun q => q h)]; decide)]
      · rw [if_neg h, bndO_e, if_neg i10, if_pos (decide_eq_true h)]
        exact congrArg some (nI_add 300 v)
    · intro rec
      unfold q_X1_wrongHere_108
      show (if (4 : Int32) ≤ nI 4 then _ else _) = _
      rw [if_pos (show (4 : Int32) ≤ nI 4 from by decide), chk_t hbm, hcm, r 104 (by unfold scC; omega), h3, hsaid]
      by_cases hh : B 3 m = 1
      · rw [if_pos hh, if_pos hh, bndO_e]
        by_cases hw : wC B n st (B 1 m) = 0 ∨ 3 < wC B n st (B 1 m)
        · rw [if_pos hw, if_pos rfl, if_pos hw]
        · rw [if_neg hw, if_neg i10, if_neg hw]
      · rw [if_neg hh, if_neg hh]
  have l2 : iter (q_X1_wrongHere_66 G O S (nI m)) fuel (B 1 m, 0) = some (match fstI (wP2 st) (n - 1) with
      | some i => nI (200 + i)
      | none => match fstI (wP3 th (B 0 2)) 4 with
        | some v => nI (300 + v)
        | none => if B 3 m = 1 then (if wC B n st (B 1 m) = 0 ∨ 3 < wC B n st (B 1 m) then 400 else -1) else -1) := by
    rw [fst_loop2 (B 1 m) (q_X1_wrongHere_66 G O S (nI m)) (wP2 st) (n - 1) (by omega) (fun i => some (nI (200 + i))) _ ?_ (fun rec => ?_)]
    · exact opt_match (fun _ => rfl) l3
    · intro i hi rec
      unfold q_X1_wrongHere_66
      show (if G 128 11 ≤ nI i + 1 then _ else _) = _
      rw [nI_1, g11, if_neg (nI_ge (by omega) (by omega)), sil i (by omega), sil (i + 1) (by omega)]
      unfold wP2
      cases h1 : (st i).2.2.2 with
      | true => rw [if_pos (show b2 (!true) = 0 from rfl), bnd_e]; rfl
      | false =>
        rw [if_neg (show ¬ b2 (!false) = 0 by decide)]
        cases h2 : (st (i + 1)).2.2.2 with
        | true => rw [if_pos (show b2 (!true) = 0 from rfl), bnd_e]; rfl
        | false =>
          rw [if_neg (show ¬ b2 (!false) = 0 by decide)]
          exact congrArg some (nI_add 200 i)
    · unfold q_X1_wrongHere_66
      show (if G 128 11 ≤ nI (n - 1) + 1 then _ else _) = _
      rw [nI_1, g11, if_pos (nI_le (by omega) (by omega))]
  unfold f_X1_wrongHere wrS
  rw [chk_t hbm, bnd_e, hcm, r 102 (by unfold scC; omega), h1]
  rw [fst_loop2 (B 1 m) (q_X1_wrongHere_12 G O S (nI m)) (wP1 B st (B 1 m)) n (by omega) (fun i => some (nI (100 + i))) _ ?_ (fun rec => ?_)]
  · exact opt_match (fun _ => rfl) l2
  · intro i hi rec
    unfold q_X1_wrongHere_12
    show (if G 128 11 ≤ nI i then _ else _) = _
    have hb : inB (nI i) 10 = true := inB_n (by omega) (by decide)
    have hc : (nI i).toNatClampNeg = i := nI_clamp (by omega)
    obtain ⟨s1, s2, s3, s4, s5, s6, s7, s8, s9⟩ := csg i hi
    obtain ⟨a1, a2, a3⟩ := row i hi
    rw [g11, if_neg (nI_ge hi (by omega)), sil i hi]
    simp only [chk_t hb, hc]
    unfold wP1
    cases h1 : (st i).2.2.2 with
    | false => rw [if_neg (show ¬ b2 (!false) = 0 by decide), bnd_e, nI_1]; rfl
    | true =>
      rw [if_pos (show b2 (!true) = 0 from rfl), s1, bndO_e, chk_t (sgE_k (by omega) s2 s6), cap11 G s2 s6, a1, a3, r (1000 + i) (by unfold scC; omega), s3, s5]
      by_cases h : (st i).1 ≤ capS (B 5 i) (B 7 i) (B 8 i) (st i).2.2.1 (B 1 m)
      · rw [if_pos h, bnd_e, nI_1, decide_eq_false (fun q => q h)]; rfl
      · rw [if_neg h, decide_eq_true h]
        exact congrArg some (nI_add 100 i)
  · unfold q_X1_wrongHere_12
    show (if G 128 11 ≤ nI n then _ else _) = _
    rw [g11, if_pos (nI_le (Nat.le_refl _) (by omega))]
theorem ag_wrong : Ag_wrong RR := by
  intro z t G L O S G' x1 hR
  have hz := hR.1.1
  unfold f_X11_wrong f_X12_wrong
  rcases way_rng x1 with ⟨w, hw, rfl, ho, hi⟩ | ⟨ho, hi⟩
  rotate_left
  · exact ⟨G, L, O, G', -2, by rw [ho, if_neg i10], by rw [hi, if_pos rfl], OW_rfl, hR⟩
  rw [ho, hi, if_pos rfl, if_neg i10]
  rcases miss11 hR hw with ⟨m1, m2, m3⟩ | ⟨m1, m2⟩
  rotate_left
  · exact ⟨G, L, O, G', -11, by rw [m1, bndO_e, if_neg i10], by rw [m2, bndO_e, if_neg i10], OW_rfl, hR⟩
  obtain ⟨e, r, ev, pl, C, L1, last, l1, l2, l4, l3, p5, p6, p7, p8, p9, p10, p11, p12, p13, -⟩ := opCtx hR hw m3
  rw [m1, m2, bndO_e, bndO_e, if_pos rfl, if_pos rfl, p5, bndP3_e, p6, bndO_e, begT12, bndO_e]
  obtain ⟨B, hB⟩ : ∃ B, B = bgR G' z := ⟨_, rfl⟩
  obtain ⟨lo, hlo⟩ : ∃ lo : Nat → Int32, lo = fun k => G' 1 k := ⟨_, rfl⟩
  have B1 : ∀ k, B 1 k = lo k := fun k => by rw [hB, hlo, bgR_n (by decide)]
  have key : ∀ (f k : Nat) (H H' : Mem), k ≤ last → last - k < f → CMem C z k 99 0 (runS B ev (nI w) lo pl z 99 0 k) (thS B ev (nI w) lo pl z 99 0 k) H → stOK z (runS B ev (nI w) lo pl z 99 0 k) → RMem B z k (runS B ev (nI w) lo pl z 99 0 k) H' → (∀ v, v < 4 → H' 23 v = thS B ev (nI w) lo pl z 99 0 k v) → ∃ (G1 : Mem) (G1' : Mem) (v : Int32), iter (q_X11_wrong_30 S (nI w)) f (H, L1, up2 O 128 12 (some e), nI k) = some (G1, L1, up2 O 128 12 (some e), v) ∧ iter (q_X12_wrong_32 (nI w)) f (H', nI k) = some (G1', v) ∧ (∃ j st th, CMem C z j 99 0 st th G1) ∧ ∀ b, ¬ scR b → G1' b = B b := by
    intro f
    induction f with
    | zero => intro k H H' _ h; omega
    | succ f ih =>
      intro k H H' hk hf e1 e2 e3 e4
      show ∃ (G1 : Mem) (G1' : Mem) (v : Int32), q_X11_wrong_30 S (nI w) (iter (q_X11_wrong_30 S (nI w)) f) (H, L1, up2 O 128 12 (some e), nI k) = some (G1, L1, up2 O 128 12 (some e), v) ∧ q_X12_wrong_32 (nI w) (iter (q_X12_wrong_32 (nI w)) f) (H', nI k) = some (G1', v) ∧ _
      generalize iter (q_X11_wrong_30 S (nI w)) f = rec1 at ih ⊢
      generalize iter (q_X12_wrong_32 (nI w)) f = rec2 at ih ⊢
      unfold q_X11_wrong_30 q_X12_wrong_32
      show ∃ (G1 : Mem) (G1' : Mem) (v : Int32), (if H 101 5 ≤ nI k then _ else _) = some (G1, L1, up2 O 128 12 (some e), v) ∧ (if H' 0 1 ≤ nI k then _ else _) = some (G1', v) ∧ _
      rw [e1.1 101 (by unfold scC; omega), p12 101 (by unfold scC; omega), l4, e3.1 0 (by unfold scR; omega), hB, bgR_0 (by decide), l3, ← hB]
      by_cases hkl : k = last
      · subst hkl
        rw [if_pos (nI_le (Nat.le_refl _) (by omega)), if_pos (nI_le (Nat.le_refl _) (by omega))]
        exact ⟨H, H', -1, rfl, rfl, ⟨_, _, _, e1⟩, e3.1⟩
      rw [if_neg (nI_ge (by omega) (by omega)), if_neg (nI_ge (by omega) (by omega)), chk_t (inB_n (by omega) (by decide)), nI_clamp (by omega), e1.1 102 (by unfold scC; omega), p12 102 (by unfold scC; omega), (hR.2.1.1 k (by omega)).1, show G' 1 k = lo k by rw [hlo]]
      obtain ⟨Gz, g1, g2, g3⟩ := stepC (lo := lo) (by rw [← hB] at p7; exact p7) (show k < 48 by omega) e2 e1
      obtain ⟨Gy, y1, y2, y3⟩ := go12 (k := k) (lo := lo) (by rw [← hB, ← hlo] at p8; exact p8) (show k < 48 by omega) (by rw [← hB] at p9; exact p9) e3
      have h7 : B 0 7 = nI z := by rw [hB]; exact p8.2.1
      obtain ⟨Gx, x1, x2, x3, x4⟩ := lookT12 (th := thS B ev (nI w) lo pl z 99 0 k) hz h7 (by omega) y2 (fun v hv => by rw [y3 23 (by decide)]; exact e4 v hv)
      have x2' : RMem B z (k + 1) (runS B ev (nI w) lo pl z 99 0 (k + 1)) Gx := x2
      have x4' : ∀ v, v < 4 → Gx 23 v = thS B ev (nI w) lo pl z 99 0 (k + 1) v := x4
      rw [g1, bndO_e, y1, bndO_e, x1, bndO_e]
      have w11 := wrong11 (m := k) (by rw [← hB] at p7; exact p7) (by omega) g2 (by rw [p12 102 (by unfold scC; omega), (hR.2.1.1 k (by omega)).1, B1, hlo]) (by rw [p12 101 (by unfold scC; omega), hR.2.2.1.2.1.1, hB, bgR_0 (by decide)]) (by rw [p12 104 (by unfold scC; omega), (hR.2.1.2.2.1 k (by omega)).1, hB, bgR_n (by decide)])
      have w12 := wrong12 (m := k) hz h7 (by omega) (by omega) x2' x4' (by rw [hB, bgR_n (by decide)]; exact (hR.2.1.2.2.1 k (by omega)).2)
      rw [w11, bndO_e, w12, bndO_e]
      by_cases hv : wrS B z (runS B ev (nI w) lo pl z 99 0 (k + 1)) (thS B ev (nI w) lo pl z 99 0 (k + 1)) (B 1 k) (B 0 2) (B 3 k) = -1
      · rw [if_pos hv, if_pos hv, bnd_e, bnd_e, nI_1]
        exact ih (k + 1) Gz Gx (by omega) (by omega) g2 g3 x2 x4'
      · rw [if_neg hv, if_neg hv]
        exact ⟨Gz, Gx, _, rfl, rfl, ⟨_, _, _, g2⟩, x2.1⟩
  obtain ⟨G1, G1', v, k1, k2, ⟨j, st, th, k3⟩, k4⟩ := key fuel 0 C (rpR (bgR G' z) 23 4 (fun _ => 0)) (by omega) (by unfold fuel; omega) p10 stOK_0 (by rw [← hB] at p11 ⊢; exact p11.r23 (fun b hb => rpR_n hb)) (fun v hv => rpR_lt hv)
  refine ⟨G1, L1, _, G1', v, k1, k2, p13, runE hR (fun b hb => p12 b (fun q => hb (q.elim Or.inl (fun h => Or.inr (Or.inl h))))) k3 (fun b h0 hb => bgR_sc h0 hb) (fun j hj => bgR_0 (by omega)) (fun b hb => by rw [← hB]; exact k4 b (fun q => hb (Or.inl q)))⟩
