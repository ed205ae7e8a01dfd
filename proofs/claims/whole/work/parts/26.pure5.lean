theorem R_tx.os {t : Nat} {G : Mem} {O O1 : MemO} {S S1 : Nat → Nat} {G' : Mem} (h : R_tx t G O S G') (hO : ∀ j, O1 117 j = O 117 j) (hS : ∀ b, 2000 ≤ b → S1 b = S b) : R_tx t G O1 S1 G' := by
  obtain ⟨q1, q2, q3, q4, q5⟩ := h
  refine ⟨q1, q2, q3, q4, fun r hr => ?_⟩
  obtain ⟨p1, p2, ac, wi, en, p3, ⟨c1, c2, c3⟩, p5⟩ := q5 r hr
  exact ⟨by rw [hO]; exact p1, by rw [hS _ (by omega)]; exact p2, ac, wi, en, p3, ⟨by rw [hS _ (by omega)]; exact c1, c2, c3⟩, p5⟩
theorem R_sh.os {G : Mem} {O O1 : MemO} {G' : Mem} (h : R_sh G O G') (hO : ∀ j, O1 118 j = O 118 j) : R_sh G O1 G' := by
  intro i hi
  obtain ⟨q1, q2⟩ := h i hi
  exact ⟨by rw [hO]; exact q1, q2⟩
theorem R_ke.mono {z z1 t t1 : Nat} {G G' : Mem} (h : R_ke z t G G') (hz : z ≤ z1) (ht : t ≤ t1) : R_ke z1 t1 G G' := by
  rcases h with h | ⟨ks, q1, q2, q3, q4, q5, q6, q7, q8, q9, k, hk, q10⟩
  · exact Or.inl h
  · exact Or.inr ⟨ks, by omega, q2, q3, q4, q5, q6, q7, q8, q9, k, by omega, q10⟩
theorem newSg (en : Nat) (G : Mem) (O : MemO) (x0 x1 x2 x3 : Int32) : f_X11_newSinger en G O x0 x1 x2 x3 = some (up2 (up2 (up2 (zr 0 G en) en 0 x1) en 1 x2) en 2 x3, zr none O en) := by
  unfold f_X11_newSinger
  split
  · rfl
  split
  · rfl
  split
  · rfl
  split
  · rfl
  split
  · rfl
  · rfl
theorem zr_o {G : Mem} {k b : Nat} (h : b ≠ k) : zr 0 G k b = G b := zr_n h
/-- what a made singer leaves in the class's memory -/
def sgC (G : Mem) (z : Nat) (h b m v : Int32) : Mem := up2 (up2 (up2 (up2 (up2 (zr 0 G (1000 + z)) (1000 + z) 0 h) (1000 + z) 1 b) (1000 + z) 2 m) 106 z v) 100 4 (nI (z + 1))
def sgR (G : Mem) (z : Nat) (k h b m v : Int32) : Mem := up2 (up2 (up2 (up2 (up2 (up2 G 5 z k) 6 z v) 9 z b) 7 z h) 8 z m) 0 7 (nI (z + 1))
theorem ag_singer_f (z t : Nat) (G : Mem) (L : MemL) (O : MemO) (S : Nat → Nat) (G' : Mem) (x1 x2 x3 : Int32) (hR : RR z t G L O S G') : ∃ (S1 : Nat → Nat) (G1 : Mem) (O1 : MemO) (nz : Nat) (G1' : Mem) (v : Int32), f_X11_singer (1000 + z) G O S x1 x2 x3 = some (S1, G1, O1, nz, v) ∧ f_X12_singer G' x1 x2 x3 = some (G1', v) ∧ RR (z + nz) t G1 L O1 S1 G1' ∧ ∀ j, G1' 31 j = G' 31 j := by
  obtain ⟨hsg, hpc, hla, hke, htx, htp, hsh, hco⟩ := id hR
  obtain ⟨hz, g1, g2, g3⟩ := id hsg
  have bad : ∀ {x4 : Option ((Nat → Nat) × Mem × MemO × Nat × Int32)} {y4 : Option (Mem × Int32)}, x4 = some (S, G, O, 0, -2) → y4 = some (G', -2) → ∃ (S1 : Nat → Nat) (G1 : Mem) (O1 : MemO) (nz : Nat) (G1' : Mem) (v : Int32), x4 = some (S1, G1, O1, nz, v) ∧ y4 = some (G1', v) ∧ RR (z + nz) t G1 L O1 S1 G1' ∧ ∀ j, G1' 31 j = G' 31 j := fun h1 h2 => ⟨S, G, O, 0, G', -2, h1, h2, hR, fun _ => rfl⟩
  unfold f_X11_singer f_X12_singer j_X11_singer_72
  rw [bnd_e, bnd_e, bnd_e]
  rcases rng x1 6 5 6 (by decide) rfl (by decide) with ⟨k, hk, rfl, ho, hi⟩ | ⟨ho, hi, -⟩
  rotate_left
  · exact bad (by rw [ho, if_neg i10]) (by rw [hi, if_pos rfl])
  rw [ho, hi, if_pos rfl, if_neg i10]
  by_cases h2 : x2 < 0
  · exact bad (by rw [if_pos h2]) (by rw [if_pos h2])
  obtain ⟨r, hr, rfl⟩ := nI_of h2
  have e1 : nI r / 1000 = nI (r / 1000) := pk_div hr (by decide) (by decide)
  have e2 : nI r / 100 = nI (r / 100) := pk_div hr (by decide) (by decide)
  have e3 : nI (r / 100) - nI (r / 100) / 10 * 10 = nI (r / 100 % 10) := pk_rem (d := 10) (by omega) (by decide) (by decide)
  have e4 : nI r - nI (r / 100) * 100 = nI (r % 100) := by
    have := pk_rem (a := r) (d := 100) hr (by decide) (by decide)
    rw [show (nI 100 : Int32) = 100 from rfl, e2] at this
    exact this
  rw [if_neg h2, if_neg h2, e1, e2, e3, e4]
  rcases rng (nI (r / 1000)) 4 3 4 (by decide) rfl (by decide) with ⟨v, hv, hve, ho, -⟩ | ⟨ho, -, hne⟩
  rotate_left
  · have : ¬ r / 1000 < 4 := fun q => hne _ q rfl
    exact bad (by rw [ho, if_neg i10]) (by rw [if_pos (show (4 : Int32) ≤ nI (r / 1000) from nI_le (a := 4) (by omega) (by omega))])
  have hv2 : r / 1000 = v := (nI_eq (by omega) (by omega)).mp hve
  rw [ho, if_pos rfl, if_neg (show ¬ (4 : Int32) ≤ nI (r / 1000) from nI_ge (b := 4) (by omega) (by decide))]
  by_cases h3 : r / 100 % 10 = 0
  · exact bad (by rw [h3, if_pos (by decide)]) (by rw [h3, if_pos (show nI 0 = (0 : Int32) from rfl)])
  rw [if_neg (show ¬ nI (r / 100 % 10) < (1 : Int32) from nI_nlt (b := 1) (by omega) (by omega)), if_neg (nI_ne0 (by omega) (by omega))]
  unfold f_X12_in
  by_cases h4 : r % 100 < 2
  · exact bad (by rw [if_pos (show nI (r % 100) < (2 : Int32) from nI_lt (b := 2) h4 (by decide))]) (by rw [if_pos (show nI (r % 100) < (2 : Int32) from nI_lt (b := 2) h4 (by decide)), if_pos rfl])
  rw [if_neg (show ¬ nI (r % 100) < (2 : Int32) from nI_nlt (b := 2) (by omega) (by omega)), if_neg (show ¬ nI (r % 100) < (2 : Int32) from nI_nlt (b := 2) (by omega) (by omega))]
  by_cases h5 : 40 < r % 100
  · exact bad (by rw [if_pos (show (40 : Int32) < nI (r % 100) from nI_lt (a := 40) h5 (by omega))]) (by rw [if_pos (show (40 : Int32) < nI (r % 100) from nI_lt (a := 40) h5 (by omega)), if_pos rfl])
  rw [if_neg (show ¬ (40 : Int32) < nI (r % 100) from nI_nlt (a := 40) (by omega) (by decide)), if_neg (show ¬ (40 : Int32) < nI (r % 100) from nI_nlt (a := 40) (by omega) (by decide)), if_neg i10]
  have fold : (if x3 < 0 then (0 : Int32) else if 9 < x3 then 0 else 1) = f_X12_in x3 0 9 := rfl
  rw [fold]
  rcases rng x3 10 9 10 (by decide) rfl (by decide) with ⟨m, hm, rfl, ho, hi⟩ | ⟨ho, hi, -⟩
  rotate_left
  · exact bad (by rw [ho, if_neg i10]) (by rw [hi, if_pos rfl])
  rw [ho, hi, if_pos rfl, if_neg i10, g1, g2]
  by_cases hz10 : z = 10
  · subst hz10
    refine ⟨S, G, O, 0, G', -4, ?_, ?_, hR, fun _ => rfl⟩
    · rw [if_neg (by decide)]
    · rw [if_pos (show nI 10 = (10 : Int32) from rfl)]
  have hzl : z < 10 := by omega
  have hb : inB (nI z) 10 = true := inB_n hzl (by decide)
  have hc : (nI z).toNatClampNeg = z := nI_clamp (by omega)
  rw [if_pos (show nI z < (10 : Int32) from nI_lt (b := 10) hzl (by decide)), if_neg (show ¬ nI z = (10 : Int32) from fun q => hz10 ((nI_eq (b := 10) (by omega) (by decide)).mp q)), newSg, bndP_e, chk_t hb, bnd_e, chk_t hb, bnd_e]
  have n0 : ∀ {a b c : Int32}, up2 (up2 (up2 (zr 0 G (1000 + z)) (1000 + z) 0 a) (1000 + z) 1 b) (1000 + z) 2 c 100 4 = nI z := by
    intro a b c
    rw [up2_o (Or.inl (by omega)), up2_o (Or.inl (by omega)), up2_o (Or.inl (by omega)), zr_o (by omega), g1]
  rw [n0, chk_t hb, bnd_e, bnd_e, up2_o (b := 100) (Or.inl (by decide)), n0, nI_1, hc, up2_aa]
  have p0 : up2 G' 5 z (nI k) 0 7 = nI z := by rw [up2_o (Or.inl (by decide)), g2]
  rw [p0, chk_t hb, hc, bnd_e]
  have p1 : up2 (up2 G' 5 z (nI k)) 6 z (nI (r / 1000)) 0 7 = nI z := by rw [up2_o (Or.inl (by decide)), p0]
  rw [p1, chk_t hb, hc, bnd_e]
  have p2 : up2 (up2 (up2 G' 5 z (nI k)) 6 z (nI (r / 1000))) 9 z (nI (r / 100 % 10)) 0 7 = nI z := by rw [up2_o (Or.inl (by decide)), p1]
  rw [p2, chk_t hb, hc, bnd_e]
  have p3 : up2 (up2 (up2 (up2 G' 5 z (nI k)) 6 z (nI (r / 1000))) 9 z (nI (r / 100 % 10))) 7 z (nI (r % 100)) 0 7 = nI z := by rw [up2_o (Or.inl (by decide)), p2]
  rw [p3, chk_t hb, hc, bnd_e]
  have p4 : up2 (up2 (up2 (up2 (up2 G' 5 z (nI k)) 6 z (nI (r / 1000))) 9 z (nI (r / 100 % 10))) 7 z (nI (r % 100))) 8 z (nI m) 0 7 = nI z := by rw [up2_o (Or.inl (by decide)), p3]
  rw [p4, bnd_e, nI_1, up2_aa, nI_pred]
  refine ⟨_, sgC G z (nI (r % 100)) (nI (r / 100 % 10)) (nI m) (nI (r / 1000)), _, 1, sgR G' z (nI k) (nI (r % 100)) (nI (r / 100 % 10)) (nI m) (nI (r / 1000)), nI z, rfl, rfl, ?_, ?_⟩
  rotate_left
  · intro j
    unfold sgR
    rw [up2_o (by omega), up2_o (by omega), up2_o (by omega), up2_o (by omega), up2_o (by omega), up2_o (by omega)]
  have c1 : ∀ b j, b ≠ 1000 + z ∧ ¬ (b = 106 ∧ j = z) ∧ ¬ (b = 100 ∧ j = 4) → sgC G z (nI (r % 100)) (nI (r / 100 % 10)) (nI m) (nI (r / 1000)) b j = G b j := by
    intro b j h
    unfold sgC
    rw [up2_o (by omega), up2_o (by omega), up2_o (by omega), up2_o (by omega), up2_o (by omega), zr_o (by omega)]
  have c2 : ∀ b j, ¬ (5 ≤ b ∧ b ≤ 9 ∧ j = z) ∧ ¬ (b = 0 ∧ j = 7) → sgR G' z (nI k) (nI (r % 100)) (nI (r / 100 % 10)) (nI m) (nI (r / 1000)) b j = G' b j := by
    intro b j h
    unfold sgR
    rw [up2_o (by omega), up2_o (by omega), up2_o (by omega), up2_o (by omega), up2_o (by omega), up2_o (by omega)]
  have oE : ∀ b j, b ≠ 1000 + z ∧ b ≠ 113 → up2 (zr none O (1000 + z)) 113 z (some (1000 + z)) b j = O b j := by
    intro b j h
    rw [up2_o (by omega), zr_n (by omega)]
  refine ⟨⟨by omega, up2_aa _ _ _ _, up2_aa _ _ _ _, fun i hi => ?_⟩, hpc.cg (fun b j h => c1 b j (by omega)) (fun b j h => c2 b j (by omega)), hla.cg (fun b j h => c1 b j (by omega)) (fun b j h => c2 b j (by omega)), (hke.cg (fun b j h => c1 b j (by omega)) (fun b j h => c2 b j (by omega))).mono (by omega) (by omega), (htx.cg (fun b j h => c1 b j (by omega)) (fun b j h => c2 b j (by omega))).os (fun j => oE _ _ (by omega)) (fun b h => upS_n (by omega)), htp.cg (fun b j h => c1 b j (by omega)) (fun b j h => c2 b j (by omega)), (hsh.cg (fun b j h => c1 b j (by omega)) (fun b j h => c2 b j (by omega))).os (fun j => oE _ _ (by omega)), hco.cg (fun b j h => c2 b j (by omega))⟩
  by_cases hiz : i = z
  · subst hiz
    have a5 : sgR G' i (nI k) (nI (r % 100)) (nI (r / 100 % 10)) (nI m) (nI (r / 1000)) 5 i = nI k := by
      unfold sgR
      rw [up2_o (by omega), up2_o (by omega), up2_o (by omega), up2_o (by omega), up2_o (by omega), up2_aa]
    have a6 : sgR G' i (nI k) (nI (r % 100)) (nI (r / 100 % 10)) (nI m) (nI (r / 1000)) 6 i = nI (r / 1000) := by
      unfold sgR
      rw [up2_o (by omega), up2_o (by omega), up2_o (by omega), up2_o (by omega), up2_aa]
    have a9 : sgR G' i (nI k) (nI (r % 100)) (nI (r / 100 % 10)) (nI m) (nI (r / 1000)) 9 i = nI (r / 100 % 10) := by
      unfold sgR
      rw [up2_o (by omega), up2_o (by omega), up2_o (by omega), up2_aa]
    have a7 : sgR G' i (nI k) (nI (r % 100)) (nI (r / 100 % 10)) (nI m) (nI (r / 1000)) 7 i = nI (r % 100) := by
      unfold sgR
      rw [up2_o (by omega), up2_o (by omega), up2_aa]
    have a8 : sgR G' i (nI k) (nI (r % 100)) (nI (r / 100 % 10)) (nI m) (nI (r / 1000)) 8 i = nI m := by
      unfold sgR
      rw [up2_o (by omega), up2_aa]
    have b0 : sgC G i (nI (r % 100)) (nI (r / 100 % 10)) (nI m) (nI (r / 1000)) (1000 + i) 0 = nI (r % 100) := by
      unfold sgC
      rw [up2_o (by omega), up2_o (by omega), up2_o (by omega), up2_o (by omega), up2_aa]
    have b1 : sgC G i (nI (r % 100)) (nI (r / 100 % 10)) (nI m) (nI (r / 1000)) (1000 + i) 1 = nI (r / 100 % 10) := by
      unfold sgC
      rw [up2_o (by omega), up2_o (by omega), up2_o (by omega), up2_aa]
    have b2 : sgC G i (nI (r % 100)) (nI (r / 100 % 10)) (nI m) (nI (r / 1000)) (1000 + i) 2 = nI m := by
      unfold sgC
      rw [up2_o (by omega), up2_o (by omega), up2_aa]
    have b6 : sgC G i (nI (r % 100)) (nI (r / 100 % 10)) (nI m) (nI (r / 1000)) 106 i = nI (r / 1000) := by
      unfold sgC
      rw [up2_o (by omega), up2_aa]
    rw [a5, a6, a7, a8, a9, b0, b1, b2, b6]
    refine ⟨up2_aa _ _ _ _, upS_e, rfl, rfl, rfl, ⟨k, hk, rfl⟩, ⟨_, by omega, by omega, rfl⟩, ⟨_, by omega, by omega, rfl⟩, ⟨m, hm, rfl⟩, rfl, ⟨_, by omega, rfl⟩⟩
  · have q := g3 i (by omega)
    rw [c1 _ _ (by omega), c1 _ _ (by omega), c1 _ _ (by omega), c1 _ _ (by omega), c2 5 _ (by omega), c2 6 _ (by omega), c2 7 _ (by omega), c2 8 _ (by omega), c2 9 _ (by omega), up2_o (Or.inr hiz), zr_n (by omega), upS_n (by omega)]
    exact q
theorem ag_singer : Ag_singer RR := by
  intro z t G L O S G' x1 x2 x3 hR
  obtain ⟨S1, G1, O1, nz, G1', v, h1, h2, h3, -⟩ := ag_singer_f z t G L O S G' x1 x2 x3 hR
  exact ⟨S1, G1, O1, nz, G1', v, h1, h2, h3⟩
-- the tape
theorem and255 (x : Int32) : ∃ j : Nat, j < 256 ∧ x &&& 255 = nI j := by
  refine ⟨(x &&& 255).toBitVec.toNat, ?_, ?_⟩
  · show (x.toBitVec &&& (255 : BitVec 32)).toNat < 256
    rw [BitVec.toNat_and]
    exact Nat.lt_of_le_of_lt Nat.and_le_right (by decide)
  · apply Int32.toBitVec_inj.mp
    show _ = BitVec.ofNat 32 _
    simp
theorem chr_s : ∀ n, n < 256 → vp_nar .char (((nI n).toUInt32 % 65536).toInt32) = nI n := by decide +kernel
theorem byt_s (x : Int32) : x.toInt8.toInt32 &&& 255 = x &&& 255 := by
  apply Int32.toBitVec_inj.mp
  rw [Int32.toBitVec_and, Int32.toBitVec_and, Int8.toBitVec_toInt32, Int32.toBitVec_toInt8]
  apply BitVec.eq_of_getLsbD_eq
  intro i hi
  have h255 : ∀ i, i < 32 → (255 : Int32).toBitVec.getLsbD i = decide (i < 8) := by decide
  rw [BitVec.getLsbD_and, BitVec.getLsbD_and, h255 i hi]
  by_cases h8 : i < 8
  · simp [BitVec.getLsbD_signExtend, BitVec.getElem_signExtend, h8, hi, BitVec.getLsbD_setWidth]
  · simp [h8]
theorem pk_vb' (x : Int32) : x.toInt8.toInt32.toInt8.toInt32 = x.toInt8.toInt32 := by
  have h1 := pk_vb x
  rw [vp_nar_byte] at h1
  exact h1
theorem byt_eq (b : Int32) : vp_nar .char (((b &&& 255).toUInt32 % 65536).toInt32) = vp_nar .byte (b.toInt8.toInt32) &&& 255 := by
  rw [pk_vb, byt_s]
  obtain ⟨j, hj, e⟩ := and255 b
  rw [e, chr_s j hj]
def fdb (w : Int64) (k : Nat) : Int32 := (w >>> ((8 * nI k).toInt64 &&& 63)).toInt32
def fdC (G : Mem) (sz k : Nat) (w : Int64) : Mem := up2 (rgR G 115 sz k (fun j => vp_nar .char (((fdb w j &&& 255).toUInt32 % 65536).toInt32))) 114 2 (nI (sz + k))
def fdR (G : Mem) (sz k : Nat) (w : Int64) : Mem := up2 (rgR G 10 sz k (fun j => vp_nar .byte ((fdb w j).toInt8.toInt32))) 0 14 (nI (sz + k))
theorem up2_same {G : Mem} {a j : Nat} {v : Int32} (h : G a j = v) : up2 G a j v = G := by
  funext b i
  by_cases hb : b = a ∧ i = j
  · obtain ⟨rfl, rfl⟩ := hb
    rw [up2_aa, h]
  · rw [up2_o (by omega)]
theorem up2_twice {G : Mem} {a j : Nat} {v w : Int32} : up2 (up2 G a j v) a j w = up2 G a j w := by
  funext b i
  by_cases hb : b = a ∧ i = j
  · obtain ⟨rfl, rfl⟩ := hb
    rw [up2_aa, up2_aa]
  · rw [up2_o (by omega), up2_o (by omega), up2_o (by omega)]
theorem up2_comm {G : Mem} {a j b i : Nat} {v w : Int32} (h : a ≠ b) : up2 (up2 G a j v) b i w = up2 (up2 G b i w) a j v := by
  funext q r
  by_cases h1 : q = a ∧ r = j
  · obtain ⟨rfl, rfl⟩ := h1
    rw [up2_aa, up2_o (Or.inl h), up2_aa]
  · by_cases h2 : q = b ∧ r = i
    · obtain ⟨rfl, rfl⟩ := h2
      rw [up2_aa, up2_o (Or.inl (Ne.symm h)), up2_aa]
    · rw [up2_o (by omega), up2_o (by omega), up2_o (by omega), up2_o (by omega)]
theorem ag_feed : Ag_feed RR := by
  intro z t G L O S G' x1 w2 hR
  obtain ⟨hsg, hpc, hla, hke, htx, htp, hsh, hco⟩ := id hR
  obtain ⟨sz, hs160, e1, e2, e3⟩ := htp
  unfold f_X11_feed f_X12_feed f_X12_in
  by_cases h1 : x1 < 1
  · exact ⟨G, G', -2, by rw [if_pos h1], by rw [if_pos h1, if_pos rfl], hR⟩
  by_cases h8 : 8 < x1
  · exact ⟨G, G', -2, by rw [if_neg h1, if_neg (Int32.not_le.mpr h8)], by rw [if_neg h1, if_pos h8, if_pos rfl], hR⟩
  have h0 : ¬ x1 < 0 := by
    intro q
    have a := Int32.lt_iff_toInt_lt.mp q
    have b : ¬ x1.toInt < (1 : Int32).toInt := fun q => h1 (Int32.lt_iff_toInt_lt.mpr q)
    rw [show (0 : Int32).toInt = 0 from rfl] at a
    rw [show (1 : Int32).toInt = 1 from rfl] at b
    omega
  obtain ⟨m, hm, rfl⟩ := nI_of2 (M := 8) (n := 8) rfl h0 (Int32.not_lt.mp h8)
  rw [if_neg h1, if_pos (Int32.not_lt.mp h8), if_neg h1, if_neg h8, if_neg i10, e1, e2, nI_add]
  by_cases h160 : sz + m ≤ 160
  rotate_left
  · have hn : ¬ nI (sz + m) ≤ (160 : Int32) := nI_ge (a := 160) (by omega) (by omega)
    exact ⟨G, G', -4, by rw [if_neg hn], by rw [if_neg hn], hR⟩
  have hp : nI (sz + m) ≤ (160 : Int32) := nI_le (b := 160) h160 (by decide)
  rw [if_pos hp, if_pos hp]
  refine ⟨fdC G sz m w2, fdR G' sz m w2, nI (sz + m), ?_, ?_, ?_⟩
  · refine iter_fuel _ (fun k a => a = (fdC G sz k w2, nI k)) (fun r => r = some (fdC G sz m w2, nI (sz + m))) m (by omega) ?_ ?_ ?_
    · rintro k a hk rfl rec
      refine Or.inl ⟨(fdC G sz (k + 1) w2, nI (k + 1)), rfl, ?_⟩
      unfold q_X11_feed_35
      show (if nI m ≤ nI k then _ else _) = _
      have e4 : fdC G sz k w2 114 2 = nI (sz + k) := up2_aa _ _ _ _
      unfold f_X5_put
      rw [if_neg (nI_ge hk (by omega)), e4, if_neg (show ¬ (160 : Int32) ≤ nI (sz + k) from nI_ge (b := 160) (by omega) (by decide)), chk_t (inB_n (by omega) (by decide)), bnd_e, bnd_e, bndO_e, bnd_e, nI_1, nI_clamp (by omega), up2_o (Or.inl (by decide)), e4, nI_1]
      have e5 : up2 (up2 (fdC G sz k w2) 115 (sz + k) (vp_nar .char (((fdb w2 k &&& 255).toUInt32 % 65536).toInt32))) 114 2 (nI (sz + k + 1)) = fdC G sz (k + 1) w2 := by
        unfold fdC
        rw [up2_comm (a := 114) (b := 115) (by decide), up2_twice]
        have := rgR_s (G := G) (b := 115) (a := sz) (k := k) (f := fun j => vp_nar .char (((fdb w2 j &&& 255).toUInt32 % 65536).toInt32))
        rw [this]
        rfl
      exact congrArg (fun q => rec (q, nI (k + 1))) e5
    · rintro a rfl rec
      unfold q_X11_feed_35
      show (if nI m ≤ nI m then _ else _) = _
      rw [if_pos (nI_le (Nat.le_refl _) (by omega))]
      unfold fdC
      rw [up2_aa]
    · show _ = _
      unfold fdC
      rw [rgR_0, Nat.add_zero, up2_same e1]
      rfl
  · refine iter_fuel _ (fun k a => a = (fdR G' sz k w2, nI k)) (fun r => r = some (fdR G' sz m w2, nI (sz + m))) m (by omega) ?_ ?_ ?_
    · rintro k a hk rfl rec
      refine Or.inl ⟨(fdR G' sz (k + 1) w2, nI (k + 1)), rfl, ?_⟩
      unfold q_X12_feed_31
      show (if nI m ≤ nI k then _ else _) = _
      have e4 : fdR G' sz k w2 0 14 = nI (sz + k) := up2_aa _ _ _ _
      rw [if_neg (nI_ge hk (by omega)), e4, chk_t (inB_n (by omega) (by decide)), bnd_e, bnd_e, bnd_e, nI_1, nI_clamp (by omega), up2_o (Or.inl (by decide)), e4, nI_1]
      have e5 : up2 (up2 (fdR G' sz k w2) 10 (sz + k) (vp_nar .byte ((fdb w2 k).toInt8.toInt32))) 0 14 (nI (sz + k + 1)) = fdR G' sz (k + 1) w2 := by
        unfold fdR
        rw [up2_comm (a := 0) (b := 10) (by decide), up2_twice]
        have := rgR_s (G := G') (b := 10) (a := sz) (k := k) (f := fun j => vp_nar .byte ((fdb w2 j).toInt8.toInt32))
        rw [this]
        rfl
      exact congrArg (fun q => rec (q, nI (k + 1))) e5
    · rintro a rfl rec
      unfold q_X12_feed_31
      show (if nI m ≤ nI m then _ else _) = _
      rw [if_pos (nI_le (Nat.le_refl _) (by omega))]
      unfold fdR
      rw [up2_aa]
    · show _ = _
      unfold fdR
      rw [rgR_0, Nat.add_zero, up2_same e2]
      rfl
  · have c1 : ∀ b j, b ≠ 115 ∧ ¬ (b = 114 ∧ j = 2) → fdC G sz m w2 b j = G b j := by
      intro b j h
      unfold fdC
      rw [up2_o (by omega), rgR_n h.1]
    have c2 : ∀ b j, b ≠ 10 ∧ ¬ (b = 0 ∧ j = 14) → fdR G' sz m w2 b j = G' b j := by
      intro b j h
      unfold fdR
      rw [up2_o (by omega), rgR_n h.1]
    refine ⟨hsg.cg (fun b j h => c1 b j (by omega)) (fun b j h => c2 b j (by omega)), hpc.cg (fun b j h => c1 b j (by omega)) (fun b j h => c2 b j (by omega)), hla.cg (fun b j h => c1 b j (by omega)) (fun b j h => c2 b j (by omega)), hke.cg (fun b j h => c1 b j (by omega)) (fun b j h => c2 b j (by omega)), htx.cg (fun b j h => c1 b j (by omega)) (fun b j h => c2 b j (by omega)), ⟨sz + m, h160, up2_aa _ _ _ _, up2_aa _ _ _ _, fun j hj => ?_⟩, hsh.cg (fun b j h => c1 b j (by omega)) (fun b j h => c2 b j (by omega)), hco.cg (fun b j h => c2 b j (by omega))⟩
    unfold fdC fdR
    rw [up2_o (Or.inl (by decide)), up2_o (Or.inl (by decide)), rgR_b, rgR_b]
    by_cases h : sz ≤ j ∧ j < sz + m
    · rw [if_pos h, if_pos h]
      refine ⟨byt_eq _, ?_⟩
      rw [pk_vb]
      exact pk_vb' _
    · rw [if_neg h, if_neg h]
      exact e3 j (by omega)
