theorem IS_swap {D : va_G} {K1 K2 : List Nat} {sh1 sh2 : Nat → Ent} {ad1 ad2 : Nat → Nat} {cy : Nat → ClassId} {X : va_W} {A : Nat → Prop} {H0 H : Heap} {locs : List Loc} {G1 G2 : Mem} {L1 L2 : MemL} {O1 O2 : MemO} (h : IS D K1 sh1 ad1 cy (wS K2 sh2 ad2 cy G2 L2 O2 ++ X) A H0 H locs G1 L1 O1) : IS D K2 sh2 ad2 cy (wS K1 sh1 ad1 cy G1 L1 O1 ++ X) A H0 H locs G2 L2 O2 := by
  have hp : (wS K2 sh2 ad2 cy G2 L2 O2 ++ (wS K1 sh1 ad1 cy G1 L1 O1 ++ X)).Perm (wS K1 sh1 ad1 cy G1 L1 O1 ++ (wS K2 sh2 ad2 cy G2 L2 O2 ++ X)) := by
    rw [← List.append_assoc, ← List.append_assoc]
    exact List.Perm.append_right X List.perm_append_comm
  exact ⟨va_P.mem (fun x hx => hp.mem_iff.mp hx) h.1, va_D.memP hp h.2.1, h.2.2⟩
def shN (S : Nat → Nat) : Nat → Ent := fun b => if b < 1000 then (match shC.find? (fun q => q.1 == b) with | some q => q.2 | none => (0, 0, [])) else if b < 2000 then (0, S b, [0, 0, 0]) else if b % 4 = 0 then (0, 9, flTx b) else if b % 4 = 1 then (1, S b, []) else if b % 4 = 2 then (1, 3, []) else (1, 32, [])
theorem shN_C {S : Nat → Nat} : ∀ q ∈ shC, shN S q.1 = q.2 := by
  have key : ∀ q ∈ shC, q.1 < 1000 ∧ shC.find? (fun z => z.1 == q.1) = some q := by decide
  intro q hq
  obtain ⟨h1, h2⟩ := key q hq
  unfold shN
  rw [if_pos h1, h2]
theorem shN_low {S T : Nat → Nat} {b : Nat} (h : b < 1000) : shN S b = shN T b := by
  unfold shN
  rw [if_pos h, if_pos h]
theorem shN_sg {S : Nat → Nat} {b : Nat} (h : 1000 ≤ b ∧ b < 2000) : shN S b = (0, S b, [0, 0, 0]) := by
  unfold shN
  rw [if_neg (by omega), if_pos h.2]
theorem shN_Sg {S : Nat → Nat} : shSg S (shN S) = shN S := by
  funext b
  unfold shSg
  by_cases h : 1000 ≤ b ∧ b < 2000
  · rw [if_pos h, shN_sg h]
  · rw [if_neg h]
theorem shN_S {S T : Nat → Nat} {b : Nat} (h : S b = T b) : shN S b = shN T b := by
  unfold shN
  rw [h]
theorem shN_tx0 {S : Nat → Nat} {b : Nat} (h : 2000 ≤ b ∧ b % 4 = 0) : shN S b = (0, 9, flTx b) := by
  unfold shN
  rw [if_neg (by omega), if_neg (by omega), if_pos h.2]
theorem shN_tx1 {S : Nat → Nat} {b : Nat} (h : 2000 ≤ b ∧ b % 4 = 0) : shN S (b + 1) = (1, S (b + 1), []) := by
  unfold shN
  rw [if_neg (by omega), if_neg (by omega), if_neg (by omega), if_pos (by omega)]
theorem shN_tx2 {S : Nat → Nat} {b : Nat} (h : 2000 ≤ b ∧ b % 4 = 0) : shN S (b + 2) = (1, 3, []) := by
  unfold shN
  rw [if_neg (by omega), if_neg (by omega), if_neg (by omega), if_neg (by omega), if_pos (by omega)]
theorem shN_tx3 {S : Nat → Nat} {b : Nat} (h : 2000 ≤ b ∧ b % 4 = 0) : shN S (b + 3) = (1, 32, []) := by
  unfold shN
  rw [if_neg (by omega), if_neg (by omega), if_neg (by omega), if_neg (by omega), if_neg (by omega)]
/-- the shapes while a text is made -/
def shP (S : Nat → Nat) (tx ln : Nat) : Nat → Ent := fun b => if b = tx then (0, 9, [1, 1, 1]) else shN (stx S tx ln) b
theorem shP_K {S : Nat → Nat} {tx ln b : Nat} (h : b ≠ tx) (h1 : b ≠ tx + 1) : shP S tx ln b = shN S b := by
  unfold shP
  rw [if_neg h]
  exact shN_S (stx_n h h1)
theorem shP_T {S : Nat → Nat} {tx ln : Nat} (hx : 2000 ≤ tx ∧ tx % 4 = 0) : shT (shP S tx ln) tx = shN (stx S tx ln) := by
  funext b
  unfold shT
  by_cases h : b = tx
  · subst h
    rw [if_pos rfl, shN_tx0 hx]
  · rw [if_neg h]
    unfold shP
    rw [if_neg h]
/-- the class's world between two calls: z singers, t texts -/
def CI (K : List Nat) (S : Nat → Nat) (O : MemO) (z t : Nat) : Prop := HC S K (shN S) ∧ Cl K (shN S) ∧ ORf K O ∧ (∀ e ∈ K, e < 1000 + z ∨ 2000 ≤ e) ∧ ∀ e ∈ K, e < 2000 + 4 * t
theorem shSg_N {S T : Nat → Nat} (h : ∀ b, ¬ (1000 ≤ b ∧ b < 2000) → T b = S b) : shSg T (shN S) = shN T := by
  funext b
  unfold shSg
  by_cases hb : 1000 ≤ b ∧ b < 2000
  · rw [if_pos hb, shN_sg hb]
  · rw [if_neg hb]
    exact shN_S (h b hb).symm
theorem CI_fr {K : List Nat} {S : Nat → Nat} {O : MemO} {z t e : Nat} (h : CI K S O z t) (he : 1000 + z ≤ e) (h2 : e < 2000) : e ∉ K := fun hk => by
  have := h.2.2.2.1 e hk
  omega
theorem CI_ft {K : List Nat} {S : Nat → Nat} {O : MemO} {z t e : Nat} (h : CI K S O z t) (he : 2000 + 4 * t ≤ e) : e ∉ K := fun hk => by
  have := h.2.2.2.2 e hk
  omega
theorem CI_singer {K : List Nat} {S Sz : Nat → Nat} {G Gz : Mem} {O Oz : MemO} {z t nz : Nat} {x1 x2 x3 vz : Int32} (h : CI K S O z t) (hz : z < 1000) (hf : f_X11_singer (1000 + z) G O S x1 x2 x3 = some (Sz, Gz, Oz, nz, vz)) : CI (if nz = 1 then K ++ [1000 + z] else K) Sz Oz (z + nz) t ∧ ∀ k ∈ (if nz = 1 then K ++ [1000 + z] else K), shN Sz k = shN (upS S (1000 + z) (kcl x1)) k := by
  have hn : 1000 + z ∉ K := CI_fr h (Nat.le_refl _) (by omega)
  have he : 1000 ≤ 1000 + z ∧ 1000 + z < 2000 := by omega
  rcases singer_cases hf with ⟨h1, h2, h3⟩ | ⟨h1, h2, h3⟩
  · subst h1 h2 h3
    rw [if_neg (by decide)]
    exact ⟨h, fun k hk => shN_S (upS_n (fun hb => hn (by rw [← hb]; exact hk))).symm⟩
  · subst h1 h2
    rw [if_pos rfl]
    have e1 : shSg (upS S (1000 + z) (kcl x1)) (shN S) = shN (upS S (1000 + z) (kcl x1)) := shSg_N (fun b hb => upS_n (by omega))
    have h4 : HC S K (shSg S (shN S)) := by rw [shN_Sg]; exact h.1
    have h5 : Cl K (shSg S (shN S)) := by rw [shN_Sg]; exact h.2.1
    have hin : ∀ b ∈ K, b ∈ K ++ [1000 + z] := fun b hb => List.mem_append_left _ hb
    refine ⟨⟨?_, ?_, h3 _ (h.2.2.1.mono hin) (List.mem_append_right _ (List.mem_singleton.mpr rfl)), ?_, ?_⟩, fun k hk => rfl⟩
    · rw [← e1]; exact HC_new (HC_up h4 hn he) he
    · rw [← e1]; exact (Cl_up h5 hn).push (by rw [shSg_e he]; simp)
    · intro e hm
      rcases List.mem_append.mp hm with hm | hm
      · have := h.2.2.2.1 e hm; omega
      · have := List.mem_singleton.mp hm; omega
    · intro e hm
      rcases List.mem_append.mp hm with hm | hm
      · exact h.2.2.2.2 e hm
      · have := List.mem_singleton.mp hm; omega
