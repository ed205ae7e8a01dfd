/-- a row's first k places new -/
def rpR (G : Mem) (b k : Nat) (f : Nat → Int32) : Mem := fun q => if q = b then (fun j => if j < k then f j else G b j) else G q
theorem rpR_n {G : Mem} {b k q : Nat} {f : Nat → Int32} (h : q ≠ b) : rpR G b k f q = G q := if_neg h
theorem rpR_b {G : Mem} {b k j : Nat} {f : Nat → Int32} : rpR G b k f b j = if j < k then f j else G b j := by
  unfold rpR
  rw [if_pos rfl]
theorem rpR_lt {G : Mem} {b k j : Nat} {f : Nat → Int32} (h : j < k) : rpR G b k f b j = f j := by rw [rpR_b, if_pos h]
theorem rpR_ge {G : Mem} {b k j : Nat} {f : Nat → Int32} (h : k ≤ j) : rpR G b k f b j = G b j := by rw [rpR_b, if_neg (by omega)]
theorem rpR_0 {G : Mem} {b : Nat} {f : Nat → Int32} : rpR G b 0 f = G := by
  funext q
  unfold rpR
  by_cases h : q = b
  · subst h
    rw [if_pos rfl]
    funext j
    rw [if_neg (by omega)]
  · rw [if_neg h]
theorem rpR_s {G : Mem} {b k : Nat} {f : Nat → Int32} : up2 (rpR G b k f) b k (f k) = rpR G b (k + 1) f := by
  funext q j
  by_cases h : q = b
  · subst h
    by_cases hj : j = k
    · subst hj
      rw [up2_aa, rpR_lt (by omega)]
    · rw [up2_an _ _ _ hj, rpR_b, rpR_b]
      by_cases h2 : j < k
      · rw [if_pos h2, if_pos (by omega)]
      · rw [if_neg h2, if_neg (by omega)]
  · rw [up2_n _ _ _ h, rpR_n h, rpR_n h]
theorem rpR_up {G : Mem} {a b k j : Nat} {f : Nat → Int32} {v : Int32} (h : a ≠ b) : up2 (rpR G b k f) a j v = rpR (up2 G a j v) b k f := by
  funext q
  by_cases hq : q = b
  · subst hq
    rw [up2_n _ _ _ (Ne.symm h)]
    funext i
    rw [rpR_b, rpR_b, up2_n _ _ _ (Ne.symm h)]
  · rw [rpR_n hq]
    by_cases ha : q = a
    · subst ha
      rw [up2_a, up2_a, rpR_n h]
    · rw [up2_n _ _ _ ha, up2_n _ _ _ ha, rpR_n hq]
theorem fill11 (G : Mem) (e n : Nat) (hn : n < 1000) (v : Int32) : f_J7_fill_53178 G e n v = some (rpR G e n (fun _ => v)) := by
  unfold f_J7_fill_53178
  rw [bnd_e]
  refine iter_fuel _ (fun k a => a = (rpR G e k (fun _ => v), nI k, nI n)) (fun r => r = some (rpR G e n (fun _ => v))) n (by omega) ?_ ?_ (by rw [rpR_0]; rfl)
  · rintro k a hk rfl rec
    refine Or.inl ⟨_, rfl, ?_⟩
    unfold q_J7_fill_53178_5
    show (if nI n ≤ nI k then _ else _) = _
    rw [if_neg (nI_ge hk (by omega)), chk_t (inB_n hk (by omega)), bnd_e, bnd_e, nI_clamp (by omega), nI_1]
    have := rpR_s (G := G) (b := e) (k := k) (f := fun _ => v)
    rw [this]
  · rintro a rfl rec
    unfold q_J7_fill_53178_5
    show (if nI n ≤ nI n then _ else _) = _
    rw [if_pos (nI_le (Nat.le_refl _) (by omega))]
theorem cpG_r (G : Mem) {a b n : Nat} {sp : Int32} (hsp : sp = 0) (hn : n < 1000) {len : Int32} (hlen : len = nI n) : cpG G a b sp sp len = rpR G b n (G a) := by
  subst hsp hlen
  funext q
  unfold cpG rpR
  by_cases h : q = b
  · rw [if_pos h, if_pos h]
    funext j
    show va_cpy (G a) (G b) (0 : Int32).toNatClampNeg (0 : Int32).toNatClampNeg (nI n).toNatClampNeg j = _
    rw [nI_clamp (by omega)]
    show (if 0 ≤ j ∧ j < 0 + n then G a (0 + (j - 0)) else G b j) = _
    by_cases h2 : j < n
    · rw [if_pos (by omega), if_pos h2]
      congr 1
      omega
    · rw [if_neg (by omega), if_neg h2]
  · rw [if_neg h, if_neg h]
/-- what takeFrom leaves -/
def tkG (G : Mem) (e0 e1 k : Nat) : Mem := up2 (up2 (up2 (rpR (rpR (rpR (rpR (rpR G (e0 + 1) 48 (G (e1 + 1))) (e0 + 2) 48 (G (e1 + 2))) (e0 + 3) 48 (G (e1 + 3))) (e0 + 4) 4 (G (e1 + 4))) (e0 + 5) k (G (e1 + 5))) e0 5 (G e1 5)) e0 6 (G e1 6)) e0 7 (G e1 7)
theorem take11 (G : Mem) (e0 e1 k : Nat) (he : e0 + 5 < e1 ∨ e1 + 5 < e0) (hk : k ≤ 10) : f_X4_takeFrom G e0 e1 (nI k) = some (tkG G e0 e1 k) := by
  unfold f_X4_takeFrom
  rw [chk_t (by decide), bnd_e, chk_t (by decide), bnd_e, chk_t (by decide), bnd_e, chk_t (by decide), bnd_e]
  rw [cpG_r G (len := 48) (n := 48) rfl (by decide) rfl, cpG_r _ (len := 48) (n := 48) rfl (by decide) rfl, cpG_r _ (len := 48) (n := 48) rfl (by decide) rfl, cpG_r _ (len := 4) (n := 4) rfl (by decide) rfl]
  rw [rpR_n (G := G) (q := e1 + 2) (by omega), rpR_n (q := e1 + 3) (b := e0 + 2) (by omega), rpR_n (q := e1 + 3) (b := e0 + 1) (by omega), rpR_n (q := e1 + 4) (b := e0 + 3) (by omega), rpR_n (q := e1 + 4) (b := e0 + 2) (by omega), rpR_n (q := e1 + 4) (b := e0 + 1) (by omega)]
  obtain ⟨T, hT⟩ : ∃ T, T = rpR (rpR (rpR (rpR G (e0 + 1) 48 (G (e1 + 1))) (e0 + 2) 48 (G (e1 + 2))) (e0 + 3) 48 (G (e1 + 3))) (e0 + 4) 4 (G (e1 + 4)) := ⟨_, rfl⟩
  have hq : ∀ q, (q = e1 ∨ q = e1 + 5) → T q = G q := by
    intro q h
    rw [hT, rpR_n (by omega), rpR_n (by omega), rpR_n (by omega), rpR_n (by omega)]
  unfold tkG
  rw [← hT]
  have h5 := hq (e1 + 5) (Or.inr rfl)
  have h0 := hq e1 (Or.inl rfl)
  have fin : ∀ rec, q_X4_takeFrom_61 e0 e1 (nI k) rec (rpR T (e0 + 5) k (G (e1 + 5)), nI k) = some (up2 (up2 (up2 (rpR T (e0 + 5) k (G (e1 + 5))) e0 5 (G e1 5)) e0 6 (G e1 6)) e0 7 (G e1 7)) := by
    intro rec
    unfold q_X4_takeFrom_61
    show (if nI k ≤ nI k then _ else _) = _
    rw [if_pos (nI_le (Nat.le_refl _) (by omega))]
    unfold j_X4_takeFrom_90
    simp only [bnd_e]
    have n0 : e1 ≠ e0 := by omega
    have n5 : e1 ≠ e0 + 5 := by omega
    rw [up2_n (up2 (rpR T (e0 + 5) k (G (e1 + 5))) e0 5 (rpR T (e0 + 5) k (G (e1 + 5)) e1 5)) 6 _ n0, up2_n (rpR T (e0 + 5) k (G (e1 + 5))) 5 _ n0, rpR_n n5, h0]
  refine iter_fuel _ (fun j a => a = (rpR T (e0 + 5) j (G (e1 + 5)), nI j)) (fun r => r = _) k (by omega) ?_ ?_ (by rw [rpR_0]; rfl)
  · rintro j a hj rfl rec
    refine Or.inl ⟨_, rfl, ?_⟩
    unfold q_X4_takeFrom_61
    show (if nI k ≤ nI j then _ else _) = _
    rw [if_neg (nI_ge hj (by omega))]
    show (if nI 10 ≤ nI j then _ else _) = _
    rw [if_neg (nI_ge (by omega) (by omega)), chk_t (inB_n (by omega) (by decide)), chk_t (inB_n (by omega) (by decide)), bnd_e, bnd_e, nI_clamp (by omega), nI_1, rpR_n (show e1 + 5 ≠ e0 + 5 by omega), h5, rpR_s]
  · rintro a rfl rec
    exact fin rec
/-- the reference's image -/
def imR (G : Mem) (k1 k2 k3 : Nat) : Mem := rpR (rpR (rpR (rpR (rpR (up2 (up2 (up2 (up2 (up2 G 0 44 1) 0 45 (G 0 1)) 0 46 (G 0 2)) 0 47 (G 0 16)) 0 48 (G 0 7)) 26 k1 (G 1)) 27 k1 (G 2)) 28 k1 (G 3)) 29 k2 (G 4)) 30 k3 (G 6)
theorem imR_n {G : Mem} {k1 k2 k3 q : Nat} (h : q ≠ 0 ∧ (q < 26 ∨ 30 < q)) : imR G k1 k2 k3 q = G q := by
  unfold imR
  rw [rpR_n (by omega), rpR_n (by omega), rpR_n (by omega), rpR_n (by omega), rpR_n (by omega), up2_n _ _ _ h.1, up2_n _ _ _ h.1, up2_n _ _ _ h.1, up2_n _ _ _ h.1, up2_n _ _ _ h.1]
theorem imR_1 {G : Mem} {k : Nat} : up2 (up2 (up2 (imR G k 0 0) 26 k (G 1 k)) 27 k (G 2 k)) 28 k (G 3 k) = imR G (k + 1) 0 0 := by
  unfold imR
  rw [rpR_0, rpR_0, rpR_0, rpR_0]
  rw [rpR_up (by decide), rpR_up (by decide), rpR_s, rpR_up (by decide), rpR_s, rpR_s]
theorem imR_2 {G : Mem} {k : Nat} : up2 (imR G 48 k 0) 29 k (G 4 k) = imR G 48 (k + 1) 0 := by
  unfold imR
  rw [rpR_0, rpR_0, rpR_s]
theorem imR_3 {G : Mem} {k : Nat} : up2 (imR G 48 4 k) 30 k (G 6 k) = imR G 48 4 (k + 1) := by
  unfold imR
  rw [rpR_s]
theorem image12 (G : Mem) : f_X12_image G = some (imR G 48 4 10, G 0 7) := by
  have l3 : iter q_X12_image_114 fuel (imR G 48 4 0, 0) = some (imR G 48 4 10, G 0 7) := by
    refine iter_fuel _ (fun k a => a = (imR G 48 4 k, nI k)) (fun r => r = some (imR G 48 4 10, G 0 7)) 10 (by omega) ?_ ?_ rfl
    · rintro k a hk rfl rec
      refine Or.inl ⟨_, rfl, ?_⟩
      unfold q_X12_image_114
      show (if nI 10 ≤ nI k then _ else _) = _
      rw [if_neg (nI_ge hk (by omega)), chk_t (inB_n hk (by decide)), chk_t (inB_n hk (by decide)), bnd_e, bnd_e, nI_clamp (by omega), nI_1, imR_n (by omega), imR_3]
    · rintro a rfl rec
      rfl
  have l2 : iter q_X12_image_89 fuel (imR G 48 0 0, 0) = some (imR G 48 4 10, G 0 7) := by
    refine iter_fuel _ (fun k a => a = (imR G 48 k 0, nI k)) (fun r => r = some (imR G 48 4 10, G 0 7)) 4 (by omega) ?_ ?_ rfl
    · rintro k a hk rfl rec
      refine Or.inl ⟨_, rfl, ?_⟩
      unfold q_X12_image_89
      show (if nI 4 ≤ nI k then _ else _) = _
      rw [if_neg (nI_ge hk (by omega)), chk_t (inB_n hk (by decide)), chk_t (inB_n hk (by decide)), bnd_e, bnd_e, nI_clamp (by omega), nI_1, imR_n (by omega), imR_2]
    · rintro a rfl rec
      unfold q_X12_image_89
      show (if nI 4 ≤ nI 4 then _ else _) = _
      rw [if_pos (nI_le (Nat.le_refl _) (by omega)), l3]
  have l1 : iter q_X12_image_39 fuel (imR G 0 0 0, 0) = some (imR G 48 4 10, G 0 7) := by
    refine iter_fuel _ (fun k a => a = (imR G k 0 0, nI k)) (fun r => r = some (imR G 48 4 10, G 0 7)) 48 (by omega) ?_ ?_ rfl
    · rintro k a hk rfl rec
      refine Or.inl ⟨(imR G (k + 1) 0 0, nI (k + 1)), rfl, ?_⟩
      unfold q_X12_image_39
      show (if nI 48 ≤ nI k then _ else _) = _
      have hb : inB (nI k) 48 = true := inB_n hk (by decide)
      rw [if_neg (nI_ge hk (by omega)), chk_t hb, chk_t hb, bnd_e, chk_t hb, chk_t hb, bnd_e, chk_t hb, chk_t hb, bnd_e, bnd_e, nI_clamp (show k < 2 ^ 31 by omega), nI_1]
      rw [imR_n (q := 1) (by omega), up2_n _ _ _ (show (2 : Nat) ≠ 26 by decide), imR_n (q := 2) (by omega), up2_n _ _ _ (show (3 : Nat) ≠ 27 by decide), up2_n _ _ _ (show (3 : Nat) ≠ 26 by decide), imR_n (q := 3) (by omega), imR_1]
    · rintro a rfl rec
      unfold q_X12_image_39
      show (if nI 48 ≤ nI 48 then _ else _) = _
      rw [if_pos (nI_le (Nat.le_refl _) (by omega)), l2]
  unfold f_X12_image
  have a1 : up2 G 0 44 1 0 1 = G 0 1 := up2_o (Or.inr (by decide))
  have a2 : up2 (up2 G 0 44 1) 0 45 (G 0 1) 0 2 = G 0 2 := by rw [up2_o (Or.inr (by decide)), up2_o (Or.inr (by decide))]
  have a3 : up2 (up2 (up2 G 0 44 1) 0 45 (G 0 1)) 0 46 (G 0 2) 0 16 = G 0 16 := by rw [up2_o (Or.inr (by decide)), up2_o (Or.inr (by decide)), up2_o (Or.inr (by decide))]
  have a4 : up2 (up2 (up2 (up2 G 0 44 1) 0 45 (G 0 1)) 0 46 (G 0 2)) 0 47 (G 0 16) 0 7 = G 0 7 := by rw [up2_o (Or.inr (by decide)), up2_o (Or.inr (by decide)), up2_o (Or.inr (by decide)), up2_o (Or.inr (by decide))]
  have e0 : up2 (up2 (up2 (up2 (up2 G 0 44 1) 0 45 (G 0 1)) 0 46 (G 0 2)) 0 47 (G 0 16)) 0 48 (G 0 7) = imR G 0 0 0 := by
    unfold imR
    rw [rpR_0, rpR_0, rpR_0, rpR_0, rpR_0]
  rw [bnd_e, bnd_e, a1, bnd_e, a2, bnd_e, a3, bnd_e, a4, e0]
  exact l1
theorem rd48 {G G' : Mem} {a b a' n k : Nat} {f g : Nat → Int32} (hn : k < n) (hfg : f k = g k ∧ rgB (g k) b) : rpR G a n f a k = rpR G' a' n g a' k ∧ rgB (rpR G' a' n g a' k) b := by
  rw [rpR_lt hn, rpR_lt hn]
  exact hfg
theorem ag_image : Ag_image RR := by
  intro z t G L O S G' hR
  obtain ⟨hsg, hpc, hla, hke, htx, htp, hsh, hco⟩ := id hR
  have hz := hsg.1
  have t11 := take11 G 107 101 z (by omega) (by omega)
  have hN : ∀ q, (q < 107 ∨ 112 < q) → tkG G 107 101 z q = G q := by
    intro q hq
    unfold tkG
    rw [up2_n _ _ _ (by omega), up2_n _ _ _ (by omega), up2_n _ _ _ (by omega), rpR_n (by omega), rpR_n (by omega), rpR_n (by omega), rpR_n (by omega), rpR_n (by omega)]
  refine ⟨up2 (tkG G 107 101 z) 100 2 (nI z), imR G' 48 4 10, nI z, ?_, ?_, ?_⟩
  · unfold f_X11_image
    rw [hsg.2.1, t11, bndO_e, bnd_e, hN 100 (by omega), up2_o (Or.inr (by decide)), hN 100 (by omega), hsg.2.1]
  · rw [image12, hsg.2.2.1]
  · have c1 : ∀ b j, ((b < 107 ∨ 112 < b) ∧ ¬ (b = 100 ∧ j = 2)) → up2 (tkG G 107 101 z) 100 2 (nI z) b j = G b j := by
      intro b j h
      rw [up2_o (by omega), hN b (by omega)]
    have c2 : ∀ b j, b ≠ 0 ∧ (b < 26 ∨ 30 < b) → imR G' 48 4 10 b j = G' b j := fun b j h => by rw [imR_n h]
    have c3 : ∀ j, j < 44 → imR G' 48 4 10 0 j = G' 0 j := by
      intro j h
      unfold imR
      rw [rpR_n (by decide), rpR_n (by decide), rpR_n (by decide), rpR_n (by decide), rpR_n (by decide), up2_o (by omega), up2_o (by omega), up2_o (by omega), up2_o (by omega), up2_o (by omega)]
    refine ⟨hsg.cg (fun b j h => c1 b j (by omega)) (fun b j h => ?_), hpc.cg (fun b j h => c1 b j (by omega)) (fun b j h => c2 b j (by omega)), hla.cg (fun b j h => c1 b j (by omega)) (fun b j h => ?_), ?_, htx.cg (fun b j h => c1 b j (by omega)) (fun b j h => ?_), htp.cg (fun b j h => c1 b j (by omega)) (fun b j h => ?_), hsh.cg (fun b j h => c1 b j (by omega)) (fun b j h => c2 b j (by omega)), hco.cg (fun b j h => c2 b j (by omega))⟩
    · by_cases hb : b = 0
      · subst hb; exact c3 j (by omega)
      · exact c2 b j (by omega)
    · obtain ⟨rfl, h⟩ := h
      exact c3 j (by omega)
    · right
      refine ⟨z, Nat.le_refl _, up2_aa _ _ _ _, rfl, hsg.2.2.1, ⟨fun j hj => ?_, fun j hj => ?_, fun j hj => ?_, fun j hj => ?_⟩, fun i hi => ?_, ?_, ?_, ?_⟩
      · exact rd48 (G := G) (G' := up2 (up2 (up2 (up2 (up2 G' 0 44 1) 0 45 (G' 0 1)) 0 46 (G' 0 2)) 0 47 (G' 0 16)) 0 48 (G' 0 7)) (a := 108) (a' := 26) hj (hpc.1 j hj)
      · exact rd48 (G := G) (G' := up2 (up2 (up2 (up2 (up2 G' 0 44 1) 0 45 (G' 0 1)) 0 46 (G' 0 2)) 0 47 (G' 0 16)) 0 48 (G' 0 7)) (a := 109) (a' := 27) hj (hpc.2.1 j hj)
      · exact rd48 (G := G) (G' := up2 (up2 (up2 (up2 (up2 G' 0 44 1) 0 45 (G' 0 1)) 0 46 (G' 0 2)) 0 47 (G' 0 16)) 0 48 (G' 0 7)) (a := 110) (a' := 28) hj (hpc.2.2.1 j hj)
      · exact rd48 (G := G) (G' := up2 (up2 (up2 (up2 (up2 G' 0 44 1) 0 45 (G' 0 1)) 0 46 (G' 0 2)) 0 47 (G' 0 16)) 0 48 (G' 0 7)) (a := 111) (a' := 29) hj (hpc.2.2.2 j hj)
      · have h1 : up2 (tkG G 107 101 z) 100 2 (nI z) 112 i = G 106 i := by
          show rpR _ 112 z (G 106) 112 i = _
          rw [rpR_lt hi]
        have h2 : imR G' 48 4 10 30 i = G' 6 i := by
          show rpR _ 30 10 (G' 6) 30 i = _
          rw [rpR_lt (by omega)]
        rw [h1, h2]
        exact (hsg.2.2.2 i hi).2.2.2.2.2.2.2.2.2
      · exact hla.1
      · exact hla.2.1
      · exact hla.2.2
    · by_cases hb : b = 0
      · subst hb; exact c3 j (by omega)
      · exact c2 b j (by omega)
    · by_cases hb : b = 0
      · subst hb; exact c3 j (by omega)
      · exact c2 b j (by omega)
/-- the reference's back -/
def bkR (G : Mem) (k1 k2 k3 : Nat) : Mem := rpR (rpR (rpR (rpR (rpR (up2 (up2 (up2 G 0 1 (G 0 45)) 0 2 (G 0 46)) 0 16 (G 0 47)) 1 k1 (G 26)) 2 k1 (G 27)) 3 k1 (G 28)) 4 k2 (G 29)) 6 k3 (G 30)
theorem bkR_n {G : Mem} {k1 k2 k3 q : Nat} (h : q = 5 ∨ 6 < q) : bkR G k1 k2 k3 q = G q := by
  unfold bkR
  rw [rpR_n (by omega), rpR_n (by omega), rpR_n (by omega), rpR_n (by omega), rpR_n (by omega), up2_n _ _ _ (by omega), up2_n _ _ _ (by omega), up2_n _ _ _ (by omega)]
theorem bkR_0 {G : Mem} {k1 k2 k3 j : Nat} (h : j ≠ 1 ∧ j ≠ 2 ∧ j ≠ 16) : bkR G k1 k2 k3 0 j = G 0 j := by
  unfold bkR
  rw [rpR_n (by decide), rpR_n (by decide), rpR_n (by decide), rpR_n (by decide), rpR_n (by decide), up2_o (by omega), up2_o (by omega), up2_o (by omega)]
theorem bkR_1 {G : Mem} {k : Nat} : up2 (up2 (up2 (bkR G k 0 0) 1 k (G 26 k)) 2 k (G 27 k)) 3 k (G 28 k) = bkR G (k + 1) 0 0 := by
  unfold bkR
  rw [rpR_0, rpR_0, rpR_0, rpR_0]
  rw [rpR_up (by decide), rpR_up (by decide), rpR_s, rpR_up (by decide), rpR_s, rpR_s]
theorem bkR_2 {G : Mem} {k : Nat} : up2 (bkR G 48 k 0) 4 k (G 29 k) = bkR G 48 (k + 1) 0 := by
  unfold bkR
  rw [rpR_0, rpR_0, rpR_s]
theorem bkR_3 {G : Mem} {k : Nat} : up2 (bkR G 48 4 k) 6 k (G 30 k) = bkR G 48 4 (k + 1) := by
  unfold bkR
  rw [rpR_s]
theorem back12 (G : Mem) (ks : Nat) (hk : ks ≤ 10) (h44 : G 0 44 = 1) (h48 : G 0 48 = nI ks) : f_X12_back G = some (bkR G 48 4 ks, G 0 7) := by
  have l3 : iter q_X12_back_111 fuel (bkR G 48 4 0, 0) = some (bkR G 48 4 ks, G 0 7) := by
    refine iter_fuel _ (fun k a => a = (bkR G 48 4 k, nI k)) (fun r => r = some (bkR G 48 4 ks, G 0 7)) ks (by omega) ?_ ?_ rfl
    · rintro k a hk rfl rec
      refine Or.inl ⟨(bkR G 48 4 (k + 1), nI (k + 1)), rfl, ?_⟩
      unfold q_X12_back_111
      show (if bkR G 48 4 k 0 48 ≤ nI k then _ else _) = _
      rw [bkR_0 (by decide), h48, if_neg (nI_ge hk (by omega)), chk_t (inB_n (by omega) (by decide)), chk_t (inB_n (by omega) (by decide)), bnd_e, bnd_e, nI_clamp (by omega), nI_1, bkR_n (by omega), bkR_3]
    · rintro a rfl rec
      unfold q_X12_back_111
      show (if bkR G 48 4 ks 0 48 ≤ nI ks then _ else _) = _
      rw [bkR_0 (by decide), h48, if_pos (nI_le (Nat.le_refl _) (by omega)), bkR_0 (by decide)]
  have l2 : iter q_X12_back_86 fuel (bkR G 48 0 0, 0) = some (bkR G 48 4 ks, G 0 7) := by
    refine iter_fuel _ (fun k a => a = (bkR G 48 k 0, nI k)) (fun r => r = some (bkR G 48 4 ks, G 0 7)) 4 (by omega) ?_ ?_ rfl
    · rintro k a hk rfl rec
      refine Or.inl ⟨(bkR G 48 (k + 1) 0, nI (k + 1)), rfl, ?_⟩
      unfold q_X12_back_86
      show (if nI 4 ≤ nI k then _ else _) = _
      rw [if_neg (nI_ge hk (by omega)), chk_t (inB_n hk (by decide)), chk_t (inB_n hk (by decide)), bnd_e, bnd_e, nI_clamp (by omega), nI_1, bkR_n (by omega), bkR_2]
    · rintro a rfl rec
      unfold q_X12_back_86
      show (if nI 4 ≤ nI 4 then _ else _) = _
      rw [if_pos (nI_le (Nat.le_refl _) (by omega)), l3]
  have l1 : iter q_X12_back_36 fuel (bkR G 0 0 0, 0) = some (bkR G 48 4 ks, G 0 7) := by
    refine iter_fuel _ (fun k a => a = (bkR G k 0 0, nI k)) (fun r => r = some (bkR G 48 4 ks, G 0 7)) 48 (by omega) ?_ ?_ rfl
    · rintro k a hk rfl rec
      refine Or.inl ⟨(bkR G (k + 1) 0 0, nI (k + 1)), rfl, ?_⟩
      unfold q_X12_back_36
      show (if nI 48 ≤ nI k then _ else _) = _
      have hb : inB (nI k) 48 = true := inB_n hk (by decide)
      rw [if_neg (nI_ge hk (by omega)), chk_t hb, chk_t hb, bnd_e, chk_t hb, chk_t hb, bnd_e, chk_t hb, chk_t hb, bnd_e, bnd_e, nI_clamp (show k < 2 ^ 31 by omega), nI_1]
      rw [bkR_n (q := 26) (by omega), up2_n _ _ _ (show (27 : Nat) ≠ 1 by decide), bkR_n (q := 27) (by omega), up2_n _ _ _ (show (28 : Nat) ≠ 2 by decide), up2_n _ _ _ (show (28 : Nat) ≠ 1 by decide), bkR_n (q := 28) (by omega), bkR_1]
    · rintro a rfl rec
      unfold q_X12_back_36
      show (if nI 48 ≤ nI 48 then _ else _) = _
      rw [if_pos (nI_le (Nat.le_refl _) (by omega)), l2]
  unfold f_X12_back
  have a1 : up2 G 0 1 (G 0 45) 0 46 = G 0 46 := up2_o (Or.inr (by decide))
  have a2 : up2 (up2 G 0 1 (G 0 45)) 0 2 (G 0 46) 0 47 = G 0 47 := by rw [up2_o (Or.inr (by decide)), up2_o (Or.inr (by decide))]
  have e0 : up2 (up2 (up2 G 0 1 (G 0 45)) 0 2 (G 0 46)) 0 16 (G 0 47) = bkR G 0 0 0 := by
    unfold bkR
    rw [rpR_0, rpR_0, rpR_0, rpR_0, rpR_0]
  rw [h44, if_neg i10, bnd_e, bnd_e, a1, bnd_e, a2, e0]
  exact l1
theorem ag_back : Ag_back RR := by
  intro z t G L O S G' hR
  obtain ⟨hsg, hpc, hla, hke, htx, htp, hsh, hco⟩ := id hR
  have hz := hsg.1
  rcases id hke with ⟨k1, k2⟩ | ⟨ks, q1, q2, q3, q4, ⟨p1, p2, p3, p4⟩, q6, q7, q8, q9⟩
  · refine ⟨G, G', -3, ?_, ?_, hR⟩
    · unfold f_X11_back
      rw [if_pos k1]
    · unfold f_X12_back
      rw [if_pos k2]
  have t11 := take11 G 101 107 ks (by omega) (by omega)
  have hN : ∀ q, (q < 101 ∨ 106 < q) → tkG G 101 107 ks q = G q := by
    intro q hq
    unfold tkG
    rw [up2_n _ _ _ (by omega), up2_n _ _ _ (by omega), up2_n _ _ _ (by omega), rpR_n (by omega), rpR_n (by omega), rpR_n (by omega), rpR_n (by omega), rpR_n (by omega)]
  refine ⟨tkG G 101 107 ks, bkR G' 48 4 ks, nI z, ?_, ?_, ?_⟩
  · unfold f_X11_back
    have hne : ¬ nI ks = -1 := by
      intro h
      have h1 : (nI ks).toInt = (-1 : Int32).toInt := by rw [h]
      rw [nI_toInt (by omega), show (-1 : Int32).toInt = -1 from rfl] at h1
      omega
    rw [q2, if_neg hne, t11, bndO_e, hN 100 (by omega), hsg.2.1]
  · rw [back12 G' ks (by omega) q3 q4, hsg.2.2.1]
  · have c1 : ∀ b j, (b < 101 ∨ 106 < b) → tkG G 101 107 ks b j = G b j := by
      intro b j h
      rw [hN b (by omega)]
    have c2 : ∀ b j, b = 5 ∨ 6 < b → bkR G' 48 4 ks b j = G' b j := fun b j h => by rw [bkR_n h]
    have c3 : ∀ j, j ≠ 1 ∧ j ≠ 2 ∧ j ≠ 16 → bkR G' 48 4 ks 0 j = G' 0 j := fun j h => bkR_0 h
    refine ⟨⟨hz, by rw [c1 _ _ (by omega)]; exact hsg.2.1, by rw [c3 _ (by omega)]; exact hsg.2.2.1, fun i hi => ?_⟩, ⟨fun j hj => ?_, fun j hj => ?_, fun j hj => ?_, fun j hj => ?_⟩, ⟨?_, ?_, ?_⟩, hke.cg (fun b j h => c1 b j (by omega)) (fun b j h => ?_), htx.cg (fun b j h => c1 b j (by omega)) (fun b j h => ?_), htp.cg (fun b j h => c1 b j (by omega)) (fun b j h => ?_), hsh.cg (fun b j h => c1 b j (by omega)) (fun b j h => c2 b j (by omega)), hco.cg (fun b j h => c2 b j (by omega))⟩
    · have h := hsg.2.2.2 i hi
      rw [c1 _ _ (by omega), c1 _ _ (by omega), c1 _ _ (by omega), c2 5 _ (by omega), c2 7 _ (by omega), c2 8 _ (by omega), c2 9 _ (by omega)]
      refine ⟨h.1, h.2.1, h.2.2.1, h.2.2.2.1, h.2.2.2.2.1, h.2.2.2.2.2.1, h.2.2.2.2.2.2.1, h.2.2.2.2.2.2.2.1, h.2.2.2.2.2.2.2.2.1, ?_⟩
      have h1 : tkG G 101 107 ks 106 i = rpR G 106 ks (G 112) 106 i := by
        unfold tkG
        rw [up2_o (Or.inl (by decide)), up2_o (Or.inl (by decide)), up2_o (Or.inl (by decide))]
        rw [rpR_b, rpR_b, rpR_n (by decide), rpR_n (by decide), rpR_n (by decide), rpR_n (by decide)]
      have h2 : bkR G' 48 4 ks 6 i = rpR G' 6 ks (G' 30) 6 i := by
        unfold bkR
        rw [rpR_b, rpR_b, rpR_n (by decide), rpR_n (by decide), rpR_n (by decide), rpR_n (by decide), up2_o (Or.inl (by decide)), up2_o (Or.inl (by decide)), up2_o (Or.inl (by decide))]
      rw [h1, h2, rpR_b, rpR_b]
      by_cases hik : i < ks
      · rw [if_pos hik, if_pos hik]
        exact q6 i hik
      · rw [if_neg hik, if_neg hik]
        exact h.2.2.2.2.2.2.2.2.2
    · exact rd48 (G := G) (G' := up2 (up2 (up2 G' 0 1 (G' 0 45)) 0 2 (G' 0 46)) 0 16 (G' 0 47)) (a := 102) (a' := 1) hj (p1 j hj)
    · exact rd48 (G := G) (G' := up2 (up2 (up2 G' 0 1 (G' 0 45)) 0 2 (G' 0 46)) 0 16 (G' 0 47)) (a := 103) (a' := 2) hj (p2 j hj)
    · exact rd48 (G := G) (G' := up2 (up2 (up2 G' 0 1 (G' 0 45)) 0 2 (G' 0 46)) 0 16 (G' 0 47)) (a := 104) (a' := 3) hj (p3 j hj)
    · exact rd48 (G := G) (G' := up2 (up2 (up2 G' 0 1 (G' 0 45)) 0 2 (G' 0 46)) 0 16 (G' 0 47)) (a := 105) (a' := 4) hj (p4 j hj)
    · exact q7
    · exact q8
    · exact q9
    · by_cases hb : b = 0
      · subst hb; exact c3 j (by omega)
      · exact c2 b j (by omega)
    · by_cases hb : b = 0
      · subst hb; exact c3 j (by omega)
      · exact c2 b j (by omega)
    · by_cases hb : b = 0
      · subst hb; exact c3 j (by omega)
      · exact c2 b j (by omega)
