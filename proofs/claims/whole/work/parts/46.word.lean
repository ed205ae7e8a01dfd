-- a word, on both sides
def wdL : List (List Int32) := [[109, 117, 115, 116], [109, 97, 121], [116, 104, 105, 110], [111, 114], [97, 110, 100], [110, 111, 116], [104, 101, 108, 100], [108, 111, 117, 100], [115, 116, 101, 112], [115, 105, 110, 103, 105, 110, 103], [98, 101, 115, 105, 100, 101], [116, 105, 114, 101, 100]]
def wdO : List Nat := [0, 5, 10, 15, 23, 30, 36, 41, 45, 50, 53, 57]
def wdC (m : Nat) : List Int32 := wdL.getD m []
def wdI (f : Nat → Int32) (n : Nat) : List Int32 := (List.range n).map f
theorem wd_eq {w : List Int32} {f : Nat → Int32} {n : Nat} : w = wdI f n ↔ (w.length = n ∧ ∀ j, j < n → w.getD j 0 = f j) := by
  constructor
  · rintro rfl
    refine ⟨by simp [wdI], fun j hj => by simp [wdI, List.getD, hj]⟩
  · rintro ⟨h1, h2⟩
    apply List.ext_getElem
    · simp [wdI, h1]
    · intro i h3 h4
      have := h2 i (by omega)
      simp [List.getD, h3] at this
      simp [wdI, this]
theorem wd_inj : ∀ a, a < 12 → ∀ b, b < 12 → wdC a = wdC b → a = b := by decide +kernel
theorem wd_len : ∀ a, a < 12 → 2 ≤ (wdC a).length ∧ (wdC a).length ≤ 7 := by decide +kernel
theorem wd_chr : ∀ a, a < 12 → ∀ j, j < 7 → f_J0_charAt_5068e 1 (nI a * 7 + nI j) = some (if j < (wdC a).length then (wdC a).getD j 0 else 32) := by decide +kernel
theorem wd_n32 : ∀ a, a < 12 → ∀ j, j < (wdC a).length → ¬ (wdC a).getD j 0 = 32 := by decide +kernel
theorem wd_off : ∀ a, a < 12 → (∀ j, j < (wdC ((a + 6) % 12)).length → lettersC.getD (wdO.getD a 0 + j) 0 = (wdC ((a + 6) % 12)).getD j 0) ∧ lettersC.getD (wdO.getD a 0 + (wdC ((a + 6) % 12)).length) 0 = 32 ∧ wdO.getD a 0 + (wdC ((a + 6) % 12)).length < 61 ∧ (a < 11 → wdO.getD (a + 1) 0 = wdO.getD a 0 + (wdC ((a + 6) % 12)).length + 1) := by decide +kernel
theorem isw11 {T : Nat → Int32} {sz p r m : Nat} {G G' : Mem} (h : Tp T sz G G') (hm : m < 12) (hpr : p ≤ r) (hr : r ≤ sz) (hl : ∀ j, p ≤ j → j < r → let8 (T j) = true) (h4 : G 114 4 = nI p) (h3 : G 114 3 = nI r) : f_X5_isWord G (nI m) = some (b2 (decide (wdC m = wdI (fun j => T (p + j)) (r - p)))) := by
  obtain ⟨h160, a1, a2, a3, -, -⟩ := h
  obtain ⟨l2, l7⟩ := wd_len m hm
  have hT : ∀ j, j < r - p → G 115 (p + j) = T (p + j) ∧ ¬ T (p + j) = 32 := by
    intro j hj
    obtain ⟨c1, c2, c3, c4, c5, -⟩ := ch_s (a3 (p + j) (by omega)).2.2
    have hlt := hl (p + j) (by omega) (by omega)
    refine ⟨by rw [(a3 (p + j) (by omega)).1, c5 (Or.inl hlt)], fun q => ?_⟩
    have := (c3.mp hlt).1
    rw [c5 (Or.inl hlt), q] at this
    exact this (by decide)
  unfold f_X5_isWord
  rw [bnd_e, h3, h4, subI hpr]
  refine iter_fuel (q_X5_isWord_12 G (nI m)) (fun k a => a = (nI (r - p), nI k) ∧ ∀ j, j < k → if j < (wdC m).length then (j < r - p ∧ T (p + j) = (wdC m).getD j 0) else r - p ≤ j) (fun q => q = some (b2 (decide (wdC m = wdI (fun j => T (p + j)) (r - p))))) 7 (by decide) ?_ ?_ ⟨rfl, fun j hj => by omega⟩
  · rintro k a hk ⟨rfl, hg⟩ rec
    unfold q_X5_isWord_12
    show (∃ a', _ ∧ (if 7 ≤ nI k then _ else _) = _) ∨ (if 7 ≤ nI k then _ else _) = _
    rw [if_neg (show ¬ (7 : Int32) ≤ nI k from nI_ge (b := 7) hk (by decide)), show (nI m * 7 + nI k : Int32) = nI m * 7 + nI k from rfl, wd_chr m hm k hk, bndO_e]
    by_cases hn : r - p ≤ k
    · rw [if_pos (nI_le hn (by omega))]
      by_cases hw : k < (wdC m).length
      · right
        rw [if_pos hw, if_neg (wd_n32 m hm k hw)]
        have : ¬ wdC m = wdI (fun j => T (p + j)) (r - p) := fun q => by
          have := (wd_eq.mp q).1
          omega
        rw [decide_eq_false this]
        rfl
      · left
        rw [if_neg hw, if_pos rfl, bnd_e, nI_1]
        refine ⟨_, ⟨rfl, fun j hj => ?_⟩, rfl⟩
        by_cases hjk : j = k
        · rw [hjk, if_neg hw]; exact hn
        · exact hg j (by omega)
    · obtain ⟨t1, t2⟩ := hT k (by omega)
      rw [if_neg (nI_ge (by omega) (by omega)), h4, nI_add, chk_t (inB_n (by omega) (by decide)), bnd_e, nI_clamp (by omega), t1]
      by_cases hw : k < (wdC m).length
      · rw [if_pos hw]
        by_cases he : (wdC m).getD k 0 = T (p + k)
        · left
          rw [if_pos he, bnd_e, nI_1]
          refine ⟨_, ⟨rfl, fun j hj => ?_⟩, rfl⟩
          by_cases hjk : j = k
          · rw [hjk, if_pos hw]; exact ⟨by omega, he.symm⟩
          · exact hg j (by omega)
        · right
          rw [if_neg he]
          have : ¬ wdC m = wdI (fun j => T (p + j)) (r - p) := fun q => he ((wd_eq.mp q).2 k (by omega))
          rw [decide_eq_false this]
          rfl
      · right
        rw [if_neg hw, if_neg (fun q => t2 q.symm)]
        have : ¬ wdC m = wdI (fun j => T (p + j)) (r - p) := fun q => by
          have := (wd_eq.mp q).1
          omega
        rw [decide_eq_false this]
        rfl
  · rintro a ⟨rfl, hg⟩ rec
    unfold q_X5_isWord_12
    show (if 7 ≤ nI 7 then (if 7 < nI (r - p) then _ else _) else _) = _
    rw [if_pos (by decide)]
    by_cases h7 : 7 < r - p
    · rw [if_pos (show (7 : Int32) < nI (r - p) from nI_lt (a := 7) h7 (by omega))]
      have : ¬ wdC m = wdI (fun j => T (p + j)) (r - p) := fun q => by
        have := (wd_eq.mp q).1
        omega
      rw [decide_eq_false this]
      rfl
    · rw [if_neg (show ¬ (7 : Int32) < nI (r - p) from nI_nlt (a := 7) (by omega) (by omega))]
      have hlen : (wdC m).length = r - p := by
        by_cases q1 : (wdC m).length < r - p
        · have := hg (wdC m).length (by omega)
          rw [if_neg (by omega)] at this
          omega
        · by_cases q2 : r - p < (wdC m).length
          · have := hg (r - p) (by omega)
            rw [if_pos q2] at this
            omega
          · omega
      have : wdC m = wdI (fun j => T (p + j)) (r - p) := wd_eq.mpr ⟨hlen, fun j hj => by
        have := hg j (by omega)
        rw [if_pos (by omega)] at this
        exact this.2.symm⟩
      rw [decide_eq_true this]
      rfl
def wdM (T : Nat → Int32) (p r m : Nat) : Prop := wdC m = wdI (fun j => T (p + j)) (r - p)
theorem wdM_eq {T : Nat → Int32} {p r m : Nat} (hpr : p ≤ r) : wdM T p r m ↔ (p + (wdC m).length = r ∧ ∀ j, j < (wdC m).length → p + j < r ∧ T (p + j) = (wdC m).getD j 0) := by
  unfold wdM
  rw [wd_eq]
  constructor
  · rintro ⟨h1, h2⟩
    exact ⟨by omega, fun j hj => ⟨by omega, (h2 j (by omega)).symm⟩⟩
  · rintro ⟨h1, h2⟩
    exact ⟨by omega, fun j hj => (h2 j (by omega)).2.symm⟩
theorem now12 {T : Nat → Int32} {sz p r : Nat} {G G' : Mem} (h : Tp T sz G G') (hpr : p ≤ r) (hr : r ≤ sz) (h23 : G' 0 23 = nI p) (h24 : G' 0 24 = nI r) : ∃ v, f_X12_wordNow G' = some v ∧ ((∃ a, a < 12 ∧ wdM T p r ((a + 6) % 12) ∧ v = meantC.getD a 0) ∨ ((∀ a, a < 12 → ¬ wdM T p r ((a + 6) % 12)) ∧ v = -1)) := by
  obtain ⟨h160, a1, a2, a3, a4, a5⟩ := h
  unfold f_X12_wordNow
  refine iter_fuel (q_X12_wordNow_4 G') (fun a s => ∃ x1, s = (x1, nI a) ∧ (a < 12 → x1 = nI (wdO.getD a 0)) ∧ ∀ b, b < a → ¬ wdM T p r ((b + 6) % 12)) (fun q => ∃ v, q = some v ∧ ((∃ a, a < 12 ∧ wdM T p r ((a + 6) % 12) ∧ v = meantC.getD a 0) ∨ ((∀ a, a < 12 → ¬ wdM T p r ((a + 6) % 12)) ∧ v = -1))) 12 (by decide) ?_ ?_ ⟨0, rfl, fun _ => rfl, fun b hb => by omega⟩
  · rintro a s ha ⟨x1, rfl, hx, hb⟩ rec
    have hx := hx ha
    subst hx
    obtain ⟨o1, o2, o3, o4⟩ := wd_off a ha
    obtain ⟨w, hw⟩ : ∃ w, w = wdC ((a + 6) % 12) := ⟨_, rfl⟩
    obtain ⟨off, hoff⟩ : ∃ o, o = wdO.getD a 0 := ⟨_, rfl⟩
    rw [← hw, ← hoff] at o1 o2 o3 o4
    have hwl := wd_len ((a + 6) % 12) (by omega)
    rw [← hw] at hwl
    have hin : (iter (q_X12_wordNow_18 G' rec) fuel (nI off, nI a, nI p, 1) = rec (nI (off + w.length + 1), nI (a + 1)) ∧ ¬ wdM T p r ((a + 6) % 12)) ∨ (wdM T p r ((a + 6) % 12) ∧ iter (q_X12_wordNow_18 G' rec) fuel (nI off, nI a, nI p, 1) = some (meantC.getD a 0)) := by
      refine iter_fuel (q_X12_wordNow_18 G' rec) (fun j s => ∃ c : Bool, s = (nI (off + j), nI a, nI (p + j), b2 c) ∧ (c = true ↔ ∀ i, i < j → p + i < r ∧ T (p + i) = w.getD i 0)) (fun q => (q = rec (nI (off + w.length + 1), nI (a + 1)) ∧ ¬ wdM T p r ((a + 6) % 12)) ∨ (wdM T p r ((a + 6) % 12) ∧ q = some (meantC.getD a 0))) w.length (by omega) ?_ ?_ ⟨true, rfl, fun _ i hi => by omega, fun _ => rfl⟩
      · rintro j s hj ⟨c, rfl, hc⟩ rec2
        left
        unfold q_X12_wordNow_18
        have hlet : G' 16 (off + j) = w.getD j 0 := by rw [a4 _ (by omega), o1 j hj]
        have hn32 := wd_n32 ((a + 6) % 12) (by omega) j (by rw [← hw]; exact hj)
        rw [← hw] at hn32
        show ∃ a', _ ∧ chk (inB (nI (off + j)) 61) _ = _
        rw [chk_t (inB_n (by omega) (by decide)), chk_t (inB_n (by omega) (by decide)), nI_clamp (by omega), hlet, if_neg hn32, h24]
        by_cases hr' : r ≤ p + j
        · rw [if_pos (nI_le hr' (by omega)), bnd_e, bnd_e, nI_1, nI_1]
          refine ⟨_, ⟨false, rfl, fun q => absurd q (by decide), fun q => ?_⟩, rfl⟩
          have := (q j (by omega)).1
          omega
        · rw [if_neg (nI_ge (by omega) (by omega)), chk_t (inB_n (by omega) (by decide)), nI_clamp (by omega), (a3 (p + j) (by omega)).2.1]
          by_cases he : T (p + j) = w.getD j 0
          · rw [if_pos he, bnd_e, bnd_e, nI_1, nI_1, chk_t (inB_n (by omega) (by decide))]
            refine ⟨_, ⟨c, rfl, ?_⟩, rfl⟩
            rw [hc]
            constructor
            · intro q i hi
              by_cases hij : i = j
              · rw [hij]; exact ⟨by omega, he⟩
              · exact q i (by omega)
            · intro q i hi
              exact q i (by omega)
          · rw [if_neg he, bnd_e, bnd_e, nI_1, nI_1, chk_t (inB_n (by omega) (by decide))]
            exact ⟨_, ⟨false, rfl, fun q => absurd q (by decide), fun q => absurd (q j (by omega)).2 he⟩, rfl⟩
      · rintro s ⟨c, rfl, hc⟩ rec2
        unfold q_X12_wordNow_18
        have hlet : G' 16 (off + w.length) = 32 := by rw [a4 _ o3, o2]
        show (chk (inB (nI (off + w.length)) 61) _ = _ ∧ _) ∨ (_ ∧ chk (inB (nI (off + w.length)) 61) _ = _)
        rw [chk_t (inB_n (by omega) (by decide)), nI_clamp (by omega), hlet, if_pos rfl, bnd_e, bnd_e, nI_1, nI_1, h24, chk_t (inB_n ha (by decide)), nI_clamp (by omega), a5 a ha]
        have hm : wdM T p r ((a + 6) % 12) ↔ (p + w.length = r ∧ c = true) := by
          rw [wdM_eq hpr, ← hw, hc]
        cases c with
        | false =>
          left
          rw [if_pos (show b2 false = 0 from rfl)]
          exact ⟨rfl, fun q => absurd (hm.mp q).2 (by decide)⟩
        | true =>
          rw [if_neg (show ¬ b2 true = 0 by decide)]
          by_cases hpr' : p + w.length = r
          · right
            rw [if_pos (by rw [hpr'])]
            exact ⟨hm.mpr ⟨hpr', rfl⟩, rfl⟩
          · left
            rw [if_neg (fun q => hpr' ((nI_eq (by omega) (by omega)).mp q))]
            exact ⟨rfl, fun q => hpr' (hm.mp q).1⟩
    unfold q_X12_wordNow_4
    show (∃ a', _ ∧ (if 12 ≤ nI a then _ else _) = _) ∨ _
    rcases hin with ⟨g1, g2⟩ | ⟨g1, g2⟩
    · left
      refine ⟨(nI (off + w.length + 1), nI (a + 1)), ⟨_, rfl, fun h12 => by rw [o4 (by omega)], fun b hb' => ?_⟩, ?_⟩
      · by_cases hba : b = a
        · rw [hba]; exact g2
        · exact hb b (by omega)
      · rw [if_neg (show ¬ (12 : Int32) ≤ nI a from nI_ge (b := 12) ha (by decide)), bnd_e, h23, ← hoff]
        exact g1
    · right
      show ∃ v, (if 12 ≤ nI a then _ else _) = _ ∧ _
      refine ⟨_, ?_, Or.inl ⟨a, ha, g1, rfl⟩⟩
      rw [if_neg (show ¬ (12 : Int32) ≤ nI a from nI_ge (b := 12) ha (by decide)), bnd_e, h23, ← hoff]
      exact g2
  · rintro s ⟨x1, rfl, -, hb⟩ rec
    exact ⟨-1, rfl, Or.inr ⟨hb, rfl⟩⟩
