-- two loops in step
theorem lock {α β ρ σ : Type} (b : (α → Option ρ) → α → Option ρ) (b' : (β → Option σ) → β → Option σ) (I : Nat → α → β → Prop) (R : Option ρ → Option σ → Prop) (hs : ∀ n a c, I n a c → (∃ n' a' c', n' < n ∧ I n' a' c' ∧ ∀ rec rec', b rec a = rec a' ∧ b' rec' c = rec' c') ∨ ∀ rec rec', R (b rec a) (b' rec' c)) : ∀ f n a c, I n a c → n < f → R (iter b f a) (iter b' f c) := by
  intro f
  induction f with
  | zero => intro n a c _ h; omega
  | succ f ih =>
    intro n a c hI hn
    show R (b (iter b f) a) (b' (iter b' f) c)
    rcases hs n a c hI with ⟨n', a', c', h1, h2, h3⟩ | h
    · obtain ⟨e1, e2⟩ := h3 (iter b f) (iter b' f)
      rw [e1, e2]
      exact ih n' a' c' h2 (by omega)
    · exact h _ _
def Res (T : Nat → Int32) (sz o H l p : Nat) (G' Gz Gz' : Mem) (v : Int32) : Prop := (v = 1 ∧ ∃ l2 p2, l < l2 ∧ p < p2 ∧ l2 + p ≤ l + p2 ∧ Ok T sz l2 p2 o Gz Gz' ∧ Kp l G' Gz' ∧ ∀ M h, h + H ≤ M → hts (acR Gz') M (l2 - l) l h = some (h + 1)) ∨ (v = 0 ∧ ∃ l2 p2, p ≤ p2 ∧ l2 + p ≤ l + p2 ∧ Bad sz l2 p2 Gz Gz')
def Ct (T : Nat → Int32) (sz o H : Nat) (F : Mem → Option (Mem × Int32)) (F' : Mem → Option Mem) : Prop := ∀ (l p : Nat) (G G' : Mem), Ok T sz l p o G G' → l ≤ p → ∃ (Gz Gz' : Mem) (v : Int32), F G = some (Gz, v) ∧ F' G' = some Gz' ∧ FrC G Gz ∧ FrR G' Gz' ∧ Res T sz o H l p G' Gz Gz' v
theorem Ok.sz {T : Nat → Int32} {sz l p o : Nat} {G G' : Mem} (h : Ok T sz l p o G G') : sz ≤ 160 ∧ p ≤ sz ∧ (¬ G 114 5 = 9 → p < sz) := by
  obtain ⟨hT, -, -, -, -, -, -, -, ⟨r, -, -, a10, a11, a12⟩, -⟩ := h
  refine ⟨hT.1, by omega, fun hn => ?_⟩
  by_cases hpr : p = r
  · exact absurd (a12 hpr) hn
  · omega
def binA (a : Int32) : Prop := ¬ a = 1 ∧ ¬ a = 2 ∧ ¬ a = 3 ∧ ¬ a = 4
theorem binstep {T : Nat → Int32} {sz o H l p : Nat} {F : Mem → Option (Mem × Int32)} {F' : Mem → Option Mem} {G G' : Mem} (hF : Ct T sz o H F F') (h : Ok T sz l p o G G') (hlp : l ≤ p) (hn : ¬ G 114 5 = 9) {x1 a : Int32} (he : x1 + 64 * 0 = enc a 0) (hs : okStep a 0) (hb : binA a) : ∃ (G1 G2 G3 G1' G2' G3' : Mem) (v : Int32), f_X5_advance G = some G1 ∧ F G1 = some (G2, v) ∧ f_X5_emit G2 x1 0 = some (G3, 1) ∧ f_X12_next G' = some G1' ∧ F' G1' = some G2' ∧ f_X12_addStep G2' a 0 = some G3' ∧ FrC G G3 ∧ FrR G' G3' ∧ ((v = 1 ∧ ∃ l2 p2, l < l2 ∧ p < p2 ∧ l2 + p ≤ l + p2 ∧ Ok T sz l2 p2 o G3 G3' ∧ Kp l G' G3' ∧ ∀ M h, h + H ≤ M → 1 ≤ h → hts (acR G3') M (l2 - l) l h = some h) ∨ (v = 0 ∧ ∃ l2 p2, p ≤ p2 ∧ l2 + p ≤ l + p2 ∧ Bad sz l2 p2 G3 G3' ∧ Bad sz l2 p2 G2 G3' ∧ FrC G G2)) := by
  obtain ⟨G1, G1', p1, a1, a2, a3, a4, a5, a6, a7, a8, a9⟩ := adv_ok h hn
  obtain ⟨G2, G2', v, c1, c2, c3, c4, c5⟩ := hF l p1 G1 G1' a9 (by omega)
  have hsz := h.sz
  rcases c5 with ⟨rfl, l2, p2, d1, d2, d3, d4, d5, d6⟩ | ⟨rfl, l2, p2, d1, d2, d3⟩
  · have hsz2 := d4.sz
    obtain ⟨G3, G3', e1, e2, e3, e4, e5, e6, e7, e8⟩ := emit_ok d4 (x1 := x1) (x2 := 0) (a := a) (w := 0) (by omega) he hs
    refine ⟨G1, G2, G3, G1', G2', G3', 1, a1, c1, e1, a2, c2, e2, (a3.tr c3).tr e3, (a4.tr c4).tr e4, Or.inl ⟨rfl, l2 + 1, p2, by omega, by omega, by omega, e7, ((a5 l).tr (Nat.le_refl _) d5).tr (by omega) e5, fun M h hM h1 => ?_⟩⟩
    rw [show l2 + 1 - l = (l2 - l) + 1 by omega, hts_add, hts_cg (ac := acR G2') (ac2 := acR G3') (l2 - l) l h (fun k k1 k2 => (e5 k (by omega)).1), d6 M h hM]
    show hts (acR G3') M 1 (l + (l2 - l)) (h + 1) = some h
    rw [show l + (l2 - l) = l2 by omega]
    show (if acR G3' l2 = 1 ∨ acR G3' l2 = 2 then _ else if acR G3' l2 = 3 ∨ acR G3' l2 = 4 then _ else _) = _
    obtain ⟨b1, b2, b3, b4⟩ := hb
    rw [e6, if_neg (fun q => q.elim b1 b2), if_neg (fun q => q.elim b3 b4), if_pos (by omega)]
    rfl
  · have hp2 := d3.1
    obtain ⟨G3', e1, e2, e3⟩ := add_bad12 d3 (by omega) (a := a) (w := 0)
    obtain ⟨G3, g1, g2, g3⟩ := emit_bad11 e3 (x1 := x1) (x2 := 0)
    exact ⟨G1, G2, G3, G1', G2', G3', 0, a1, c1, g1, a2, c2, e1, (a3.tr c3).tr g2, (a4.tr c4).tr e2, Or.inr ⟨rfl, l2 + 1, p2, by omega, by omega, g3, e3, a3.tr c3⟩⟩
theorem loopB {T : Nat → Int32} {sz o H : Nat} {F : Mem → Option (Mem × Int32)} {F' : Mem → Option Mem} (hF : Ct T sz o H F F') (b : (Mem × Int32 × Int32 → Option (Mem × Int32)) → Mem × Int32 × Int32 → Option (Mem × Int32)) (b' : (Mem → Option Mem) → Mem → Option Mem) (opr : Int32 → Prop) (x a : Int32 → Int32) (hop : ∀ t, opr t → ¬ t = 9 ∧ x t + 64 * 0 = enc (a t) 0 ∧ okStep (a t) 0 ∧ binA (a t)) (hB0 : ∀ rec G i, b rec (G, 0, i) = some (G, 0)) (hB1 : ∀ rec G i, ¬ opr (G 114 5) → b rec (G, 1, i) = some (G, 1)) (hB2 : ∀ rec G i, ¬ (160 : Int32) ≤ i → opr (G 114 5) → b rec (G, 1, i) = bndO (f_X5_advance G) (fun G1 => bndP (F G1) (fun G2 v => bndP (f_X5_emit G2 (x (G 114 5)) 0) (fun G3 _ => rec (G3, v, i + 1))))) (hR0 : ∀ rec G, 0 ≤ G 0 21 → b' rec G = some G) (hR1 : ∀ rec G t v, G 0 21 = -1 → tkR t v (G 0 25) (G 0 26) → ¬ opr t → b' rec G = some G) (hR2 : ∀ rec G t v, G 0 21 = -1 → tkR t v (G 0 25) (G 0 26) → opr t → b' rec G = bndO (f_X12_next G) (fun G1 => bndO (F' G1) (fun G2 => bndO (f_X12_addStep G2 (a t) 0) (fun G3 => rec G3)))) : Ct T sz o (H + 1) (fun G => bndP (F G) (fun G1 v => iter b fuel (G1, v, 0))) (fun G => bndO (F' G) (fun G1 => iter b' fuel G1)) := by
  intro l p G G' h hlp
  obtain ⟨G1, G1', v, c1, c2, c3, c4, c5⟩ := hF l p G G' h hlp
  have hsz := h.sz
  show ∃ Gz Gz' v, bndP (F G) _ = _ ∧ bndO (F' G') _ = _ ∧ _
  rw [c1, c2, bndP_e, bndO_e]
  refine lock b b' (fun n s s' => ∃ (Gi : Mem) (vi xi : Int32), s = (Gi, vi, xi) ∧ FrC G Gi ∧ FrR G' s' ∧ ((vi = 1 ∧ ∃ i li pi, xi = nI i ∧ i + p + 1 ≤ pi ∧ sz ≤ n + pi ∧ l < li ∧ li + p ≤ l + pi ∧ Ok T sz li pi o Gi s' ∧ Kp l G' s' ∧ ∀ M h, h + (H + 1) ≤ M → hts (acR s') M (li - l) l h = some (h + 1)) ∨ (vi = 0 ∧ ∃ li pi, p ≤ pi ∧ li + p ≤ l + pi ∧ Bad sz li pi Gi s'))) (fun q q' => ∃ Gz Gz' v, q = some (Gz, v) ∧ q' = some Gz' ∧ FrC G Gz ∧ FrR G' Gz' ∧ Res T sz o (H + 1) l p G' Gz Gz' v) ?_ fuel sz (G1, v, 0) G1' ?_ (by unfold fuel; omega)
  rotate_left
  · refine ⟨G1, v, 0, rfl, c3, c4, ?_⟩
    rcases c5 with ⟨rfl, l2, p2, d1, d2, d3, d4, d5, d6⟩ | ⟨rfl, l2, p2, d1, d2, d3⟩
    · exact Or.inl ⟨rfl, 0, l2, p2, rfl, by omega, by omega, d1, d3, d4, d5, fun M h hM => d6 M h (by omega)⟩
    · exact Or.inr ⟨rfl, l2, p2, d1, d2, d3⟩
  · rintro n s s' ⟨Gi, vi, xi, rfl, f1, f2, hI⟩
    rcases hI with ⟨rfl, i, li, pi, rfl, i1, i2, i3, i4, i5, i6, i7⟩ | ⟨rfl, li, pi, i1, i2, i3⟩
    · have hzi := i5.sz
      have h21 : s' 0 21 = -1 := i5.2.1
      have htk : tkR (Gi 114 5) (Gi 114 6) (s' 0 25) (s' 0 26) := i5.2.2.2.2.2.2.2.2.2
      by_cases ho : opr (Gi 114 5)
      · left
        obtain ⟨o1, o2, o3, o4⟩ := hop _ ho
        obtain ⟨A1, A2, A3, A1', A2', A3', v2, a1, a2, a3, a4, a5, a6, a7, a8, a9⟩ := binstep hF i5 (by omega) o1 o2 o3 o4
        have hps := hzi.2.2 o1
        refine ⟨n - 1, (A3, v2, nI (i + 1)), A3', by omega, ⟨A3, v2, _, rfl, f1.tr a7, f2.tr a8, ?_⟩, fun rec rec' => ⟨?_, ?_⟩⟩
        · rcases a9 with ⟨rfl, l2, p2, d1, d2, d3, d4, d5, d6⟩ | ⟨rfl, l2, p2, d1, d2, d3, -⟩
          · refine Or.inl ⟨rfl, i + 1, l2, p2, rfl, by omega, by omega, by omega, by omega, d4, i6.tr (by omega) d5, fun M h hM => ?_⟩
            rw [show l2 - l = (li - l) + (l2 - li) by omega, hts_add, hts_cg (ac := acR s') (ac2 := acR A3') (li - l) l h (fun k k1 k2 => (d5 k (by omega)).1), i7 M h hM]
            show hts (acR A3') M (l2 - li) (l + (li - l)) (h + 1) = some (h + 1)
            rw [show l + (li - l) = li by omega]
            exact d6 M (h + 1) (by omega) (by omega)
          · exact Or.inr ⟨rfl, l2, p2, by omega, by omega, d3⟩
        · rw [hB2 rec Gi (nI i) (show ¬ (160 : Int32) ≤ nI i from nI_ge (b := 160) (by omega) (by decide)) ho, a1, bndO_e, a2, bndP_e, a3, bndP_e, nI_1]
        · rw [hR2 rec' s' _ _ h21 htk ho, a4, bndO_e, a5, bndO_e, a6, bndO_e]
      · right
        intro rec rec'
        exact ⟨Gi, s', 1, hB1 _ _ _ ho, hR1 _ _ _ _ h21 htk ho, f1, f2, Or.inl ⟨rfl, li, pi, i3, by omega, i4, i5, i6, i7⟩⟩
    · right
      intro rec rec'
      refine ⟨Gi, s', 0, hB0 _ _ _, hR0 _ _ ?_, f1, f2, Or.inr ⟨rfl, li, pi, i1, i2, i3⟩⟩
      rw [i3.2.2.1]
      have := i3.1
      exact nI_le (a := 0) (by omega) (by omega)
