-- the three rules of a text, on both sides
theorem Ok.cg {T : Nat → Int32} {sz l p o : Nat} {G G1 G' G1' : Mem} (h : Ok T sz l p o G G') (h1 : ∀ b j, b = 114 ∨ b = 115 ∨ b = 116 → G1 b j = G b j) (h2 : ∀ b j, b = 0 ∨ b = 10 ∨ b = 11 ∨ b = 12 ∨ b = 16 ∨ b = 17 → G1' b j = G' b j) : Ok T sz l p o G1 G1' := by
  obtain ⟨hT, a1, a2, a3, a4, a5, a6, a7, ⟨r, a8, a9, a10, a11, a12⟩, a13⟩ := h
  refine ⟨hT.cg (fun b j hb => h1 b j (by omega)) (fun b j hb => h2 b j (by omega)), by rw [h2 _ _ (by omega)]; exact a1, by rw [h2 _ _ (by omega)]; exact a2, by rw [h1 _ _ (by omega)]; exact a3, by rw [h2 _ _ (by omega)]; exact a4, fun k hk => ?_, by rw [h1 _ _ (by omega)]; exact a6, by rw [h2 _ _ (by omega)]; exact a7, ⟨r, by rw [h1 _ _ (by omega)]; exact a8, by rw [h2 _ _ (by omega)]; exact a9, a10, a11, fun q => by rw [h1 _ _ (by omega)]; exact a12 q⟩, ?_⟩
  · rw [h1 _ _ (by omega), h2 _ _ (by omega), h2 _ _ (by omega)]; exact a5 k hk
  · rw [h1 _ _ (by omega), h1 _ _ (by omega), h2 _ _ (by omega), h2 _ _ (by omega)]; exact a13
theorem iter_s {α β : Type} (b : (α → Option β) → α → Option β) (n : Nat) (a : α) : iter b (n + 1) a = b (iter b n) a := rfl
/-- the text's end on the class's side -/
noncomputable def endC (tx ln : Nat) (O : MemO) (G45 : Mem) : Option (Mem × MemO × Nat) := (if (G45 114 5) = 9 then bnd (zr 0 G45 tx) (fun G47 => bnd (zr none O tx) (fun O48 => bndO (f_J7_copyOf_59c91 (tx + 1) ln G47 116 160 (G47 114 7)) (fun G50 => bndP (f_X9_init tx G50 O48) (fun G53 O55 => chk (decide (O55 tx 0 = some (tx + 1) ∧ O55 tx 1 = some (tx + 2) ∧ O55 tx 2 = some (tx + 3))) (some (G53, O55, 1)))))) else some (G45, O, 0))
theorem comp_eq (tx ln : Nat) (G : Mem) (O : MemO) : f_X5_compiled tx ln G O = bndO (f_X5_advance (up2 (up2 G 114 3 0) 114 7 0)) (fun G3 => clR O 0 (fun G15 => clR O 1 (fun G28 => clR O 2 (fun G41 => endC tx ln O (up2 G41 (tx + 2) 2 (G41 114 7))) (up2 G28 (tx + 2) 1 (G28 114 7))) (up2 G15 (tx + 2) 0 (G15 114 7))) (zr 0 G3 (tx + 2))) := rfl
/-- frames over a whole text -/
def FrT (tx : Nat) (G G1 : Mem) : Prop := ∀ b j, ¬ (b = 114 ∧ 3 ≤ j ∧ j ≤ 7) → b ≠ 116 → b ≠ tx + 2 → G1 b j = G b j
def FrU (G G1 : Mem) : Prop := ∀ b j, ¬ (b = 0 ∧ 20 ≤ j ∧ j ≤ 26) → ¬ ((b = 11 ∨ b = 12) ∧ 1020 ≤ j) → ¬ (b = 13 ∧ 18 ≤ j) → G1 b j = G b j
theorem comp {T : Nat → Int32} {sz tx : Nat} {G G' : Mem} (hT : Tp T sz G G') (htx : 2000 ≤ tx) (h15 : ¬ G' 0 15 = 6) : (∃ (Gc Gm' : Mem) (e0 e1 e2 p : Nat), (∀ ln O, f_X5_compiled tx ln G O = endC tx ln O Gc) ∧ f_X12_text G' = j_X12_text_61 Gm' ∧ FrT tx G Gc ∧ FrU G' Gm' ∧ Ok T sz e2 p 0 Gc Gm' ∧ e0 < e1 ∧ e1 < e2 ∧ e2 < p ∧ hts (acR Gm') 32 e0 0 0 = some 1 ∧ hts (acR Gm') 32 (e1 - e0) e0 0 = some 1 ∧ hts (acR Gm') 32 (e2 - e1) e1 0 = some 1 ∧ Gc (tx + 2) 0 = nI e0 ∧ Gc (tx + 2) 1 = nI e1 ∧ Gc (tx + 2) 2 = nI e2 ∧ Gm' 13 18 = nI e0 ∧ Gm' 13 19 = nI e1 ∧ Gm' 13 20 = nI e2) ∨ (∃ (Gf Gf' : Mem) (l p : Nat), (∀ ln O, f_X5_compiled tx ln G O = some (Gf, O, 0)) ∧ f_X12_text G' = j_X12_text_61 Gf' ∧ FrT tx G Gf ∧ FrU G' Gf' ∧ Bad sz l p Gf Gf') := by
  have h160 := hT.1
  obtain ⟨C0, hC0⟩ : ∃ x, x = up2 (up2 G 114 3 0) 114 7 0 := ⟨_, rfl⟩
  obtain ⟨R0, hR0⟩ : ∃ x, x = up2 (up2 (up2 (up2 G' 0 24 0) 0 21 (-1)) 0 22 0) 0 20 0 := ⟨_, rfl⟩
  have fC : ∀ b j, ¬ (b = 114 ∧ (j = 3 ∨ j = 7)) → C0 b j = G b j := fun b j hb => by rw [hC0, up2_o (by omega), up2_o (by omega)]
  have fR : ∀ b j, ¬ (b = 0 ∧ 20 ≤ j ∧ j ≤ 24) → R0 b j = G' b j := fun b j hb => by rw [hR0, up2_o (by omega), up2_o (by omega), up2_o (by omega), up2_o (by omega)]
  obtain ⟨G3, G3', p, r, b1, b2, b3, b4, b5, b6, b7, b8, b9, b10, b11, b12, b13⟩ := adv (q := 0) (hT.cg (G1 := C0) (G1' := R0) (fun b j hb => fC b j (by omega)) (fun b j hb => fR b j (by omega))) (by omega) (by rw [hC0, up2_o (by omega), up2_aa]; rfl) (by rw [hR0, up2_o (by omega), up2_o (by omega), up2_o (by omega), up2_aa]; rfl)
  have ok0 : Ok T sz 0 p 0 G3 G3' := ⟨hT.cg (fun b j hb => by rw [b3 b j (by omega), fC b j (by omega)]) (fun b j hb => by rw [b4 b j (by omega), fR b j (by omega)]), by rw [b4 _ _ (by omega), hR0, up2_o (by omega), up2_o (by omega), up2_aa], by rw [b4 _ _ (by omega), hR0, up2_o (by omega), up2_aa]; rfl, by rw [b3 _ _ (by omega), hC0, up2_aa]; rfl, by rw [b4 _ _ (by omega), hR0, up2_aa]; rfl, fun k hk => by omega, b5, b6, ⟨r, b7, b8, b10, b11, b13⟩, b12⟩
  have tC : FrT tx G (zr 0 G3 (tx + 2)) := fun b j x y w => by
    unfold zr
    rw [if_neg w, b3 b j (by omega), fC b j (by omega)]
  have tR : FrU G' G3' := fun b j x y w => by rw [b4 b j (by omega), fR b j (by omega)]
  have tCC : ∀ {A B : Mem} {i : Nat} {v : Int32}, FrT tx G A → FrC A B → FrT tx G B ∧ FrT tx G (up2 B (tx + 2) i v) := fun h1 h2 => ⟨fun b j x y w => (h2 b j x y).trans (h1 b j x y w), fun b j x y w => by rw [up2_o (by omega)]; exact (h2 b j x y).trans (h1 b j x y w)⟩
  have tRR : ∀ {A B : Mem} {i : Nat} {v : Int32}, FrU G' A → FrR A B → FrU G' B ∧ FrU G' (up2 B 13 (18 + i) v) := fun h1 h2 => ⟨fun b j x y w => (h2 b j x y).trans (h1 b j x y w), fun b j x y w => by rw [up2_o (by omega)]; exact (h2 b j x y).trans (h1 b j x y w)⟩
  have oz : ∀ {A A' : Mem} {l q i j : Nat} {v w : Int32}, Ok T sz l q 0 A A' → Ok T sz l q 0 (up2 A (tx + 2) i v) (up2 A' 13 j w) := fun h => h.cg (fun b j hb => up2_o (by omega)) (fun b j hb => up2_o (by omega))
  have cls : ∀ ln O, f_X5_compiled tx ln G O = clR O 0 (fun G15 => clR O 1 (fun G28 => clR O 2 (fun G41 => endC tx ln O (up2 G41 (tx + 2) 2 (G41 114 7))) (up2 G28 (tx + 2) 1 (G28 114 7))) (up2 G15 (tx + 2) 0 (G15 114 7))) (zr 0 G3 (tx + 2)) := fun ln O => by rw [comp_eq, ← hC0, b1, bndO_e]
  have ref : f_X12_text G' = iter q_X12_text_38 (99996 + 1 + 1 + 1 + 1) (G3', 0) := by
    unfold f_X12_text
    rw [if_neg h15, bnd_e, bnd_e, bnd_e, bnd_e, ← hR0, b2, bndO_e]
    rfl
  have stp : ∀ (n r : Nat) (A : Mem), r < 3 → A 0 21 = -1 → iter q_X12_text_38 (n + 1) (A, nI r) = bndO (f_X12_rule A (nI r)) (fun B => iter q_X12_text_38 n (B, nI (r + 1))) := by
    intro n r A hr h
    rw [iter_s]
    show (if 2 < nI r then _ else if 0 ≤ A 0 21 then _ else _) = _
    rw [if_neg (show ¬ (2 : Int32) < nI r from nI_nlt (a := 2) (by omega) (by omega)), h, if_neg (by decide), nI_1]
    rfl
  have stpB : ∀ (n : Nat) (r : Int32) (A : Mem), 0 ≤ A 0 21 → iter q_X12_text_38 (n + 1) (A, r) = j_X12_text_61 A := by
    intro n r A h
    rw [iter_s]
    show (if 2 < r then _ else if 0 ≤ A 0 21 then _ else _) = _
    rw [if_pos h]
    split <;> rfl
  have k1 := rule_ok (r := 0) (by decide) (ok0.cg (G1 := zr 0 G3 (tx + 2)) (G1' := G3') (fun b j hb => by unfold zr; rw [if_neg (by omega)]) (fun _ _ _ => rfl)) (Nat.zero_le _)
  rcases k1 with ⟨A1, B1, l1, p1, a1, a2, a3, a4, a5, a6, a7, a8, a9⟩ | ⟨A1, B1, l1, p1, a1, a2, a3, a4, a5, a6⟩
  rotate_left
  · right
    refine ⟨A1, B1, l1, p1, fun ln O => ?_, ?_, (tCC (i := 0) (v := 0) tC a3).1, (tRR (i := 0) (v := 0) tR a4).1, a6⟩
    · rw [cls]; exact a1 O _
    · rw [ref, show ((G3', 0) : Mem × Int32) = (G3', nI 0) from rfl, stp _ 0 _ (by decide) ok0.2.1, a2, bndO_e, stpB _ _ _ (Bad.ge a6 h160)]
  have o1 := oz (i := 0) (v := nI l1) (j := 18 + 0) (w := nI l1) a7
  have k2 := rule_ok (r := 1) (by decide) o1 (Nat.le_of_lt a6)
  rcases k2 with ⟨A2, B2, l2, p2, b1', b2', b3', b4', b5', b6', b7', b8', b9'⟩ | ⟨A2, B2, l2, p2, b1', b2', b3', b4', b5', b6'⟩
  rotate_left
  · right
    refine ⟨A2, B2, l2, p2, fun ln O => ?_, ?_, (tCC (i := 0) (v := 0) (tCC tC a3).2 b3').1, (tRR (i := 0) (v := 0) (tRR tR a4).2 b4').1, b6'⟩
    · rw [cls]
      refine (a1 O _).trans ?_
      show clR O 1 _ (up2 A1 (tx + 2) 0 (A1 114 7)) = _
      rw [a7.2.2.2.1]; exact b1' O _
    · rw [ref, show ((G3', 0) : Mem × Int32) = (G3', nI 0) from rfl, stp _ 0 _ (by decide) ok0.2.1, a2, bndO_e, stp _ 1 _ (by decide) o1.2.1, b2', bndO_e, stpB _ _ _ (Bad.ge b6' h160)]
  have o2 := oz (i := 1) (v := nI l2) (j := 18 + 1) (w := nI l2) b7'
  have k3 := rule_ok (r := 2) (by decide) o2 (Nat.le_of_lt b6')
  rcases k3 with ⟨A3, B3, l3, p3, c1, c2, c3, c4, c5, c6, c7, c8, c9⟩ | ⟨A3, B3, l3, p3, c1, c2, c3, c4, c5, c6⟩
  rotate_left
  · right
    refine ⟨A3, B3, l3, p3, fun ln O => ?_, ?_, (tCC (i := 0) (v := 0) (tCC (tCC tC a3).2 b3').2 c3).1, (tRR (i := 0) (v := 0) (tRR (tRR tR a4).2 b4').2 c4).1, c6⟩
    · rw [cls]
      refine (a1 O _).trans ?_
      show clR O 1 _ (up2 A1 (tx + 2) 0 (A1 114 7)) = _
      rw [a7.2.2.2.1]
      refine (b1' O _).trans ?_
      show clR O 2 _ (up2 A2 (tx + 2) 1 (A2 114 7)) = _
      rw [b7'.2.2.2.1]; exact c1 O _
    · rw [ref, show ((G3', 0) : Mem × Int32) = (G3', nI 0) from rfl, stp _ 0 _ (by decide) ok0.2.1, a2, bndO_e, stp _ 1 _ (by decide) o1.2.1, b2', bndO_e, stp _ 2 _ (by decide) o2.2.1, c2, bndO_e, stpB _ _ _ (Bad.ge c6 h160)]
  left
  have o3 := oz (i := 2) (v := nI l3) (j := 18 + 2) (w := nI l3) c7
  refine ⟨up2 A3 (tx + 2) 2 (nI l3), up2 B3 13 (18 + 2) (nI l3), l1, l2, l3, p3, fun ln O => ?_, ?_, (tCC (tCC (tCC tC a3).2 b3').2 c3).2, (tRR (tRR (tRR tR a4).2 b4').2 c4).2, o3, b5', c5, c6, ?_, ?_, ?_, ?_, ?_, up2_aa _ _ _ _, ?_, ?_, up2_aa _ _ _ _⟩
  · rw [cls]
    refine (a1 O _).trans ?_
    show clR O 1 _ (up2 A1 (tx + 2) 0 (A1 114 7)) = _
    rw [a7.2.2.2.1]
    refine (b1' O _).trans ?_
    show clR O 2 _ (up2 A2 (tx + 2) 1 (A2 114 7)) = _
    rw [b7'.2.2.2.1]
    refine (c1 O _).trans ?_
    show endC tx ln O (up2 A3 (tx + 2) 2 (A3 114 7)) = _
    rw [c7.2.2.2.1]
  · rw [ref, show ((G3', 0) : Mem × Int32) = (G3', nI 0) from rfl, stp _ 0 _ (by decide) ok0.2.1, a2, bndO_e, stp _ 1 _ (by decide) o1.2.1, b2', bndO_e, stp _ 2 _ (by decide) o2.2.1, c2, bndO_e, iter_s]
    rfl
  · have : acR (up2 B3 13 (18 + 2) (nI l3)) = acR B3 := funext fun k => up2_o (by omega)
    rw [this, ← a9, Nat.sub_zero]
    refine hts_cg l1 0 0 (fun k k1 k2 => ?_)
    show B3 11 (1020 + k) = B1 11 (1020 + k)
    rw [(c8 k (by omega)).1, up2_o (by omega), (b8' k (by omega)).1, up2_o (by omega)]
  · have : acR (up2 B3 13 (18 + 2) (nI l3)) = acR B3 := funext fun k => up2_o (by omega)
    rw [this, ← b9']
    refine hts_cg _ _ 0 (fun k k1 k2 => ?_)
    show B3 11 (1020 + k) = B2 11 (1020 + k)
    rw [(c8 k (by omega)).1, up2_o (by omega)]
  · have : acR (up2 B3 13 (18 + 2) (nI l3)) = acR B3 := funext fun k => up2_o (by omega)
    rw [this, ← c9]
  · rw [up2_an _ _ _ (by decide), c3 _ _ (by omega) (by omega), up2_an _ _ _ (by decide), b3' _ _ (by omega) (by omega), up2_aa]
  · rw [up2_an _ _ _ (by decide), c3 _ _ (by omega) (by omega), up2_aa]
  · rw [up2_an _ _ _ (by decide), c4 _ _ (by omega) (by omega), up2_an _ _ _ (by decide), b4' _ _ (by omega) (by omega), up2_aa]
  · rw [up2_an _ _ _ (by decide), c4 _ _ (by omega) (by omega), up2_aa]
