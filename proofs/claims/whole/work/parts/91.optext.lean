/-! PURE: text -/
theorem pc.set {V V' : xV} {S : Nat → Nat} {t : Nat} (h : pc V 1 S) (hr : rT S) (h1 : ∀ k, k ≠ 9 → V' 1 k = V 1 k) (h9 : V' 1 9 = nI t) (hV : ∀ r, 2 ≤ r → r ≤ 8 → V' r = V r) : pc V' 1 (su S 2 t) := by
  obtain ⟨a1, a2, a3, a4, a5, a6⟩ := h
  have s : ∀ k, k ≠ 2 → su S 2 t k = S k := fun k hk => su_ne hk
  refine ⟨⟨?_, ?_, ?_, ?_⟩, a2.fr (hV _ (by omega) (by omega)) (hV _ (by omega) (by omega)) (hV _ (by omega) (by omega)) (fun k _ _ => s k (by omega)), a3.fr (hV _ (by omega) (by omega)) (fun k _ _ => s k (by omega)), a4.fr (hV _ (by omega) (by omega)) (fun k _ _ => s k (by omega)), a5.fr (hV _ (by omega) (by omega)) (fun k _ _ => s k (by omega)), a6.fr hr (hV _ (by omega) (by omega)) (h1 11 (by omega)) (h1 12 (by omega)) (s 4 (by omega)) (fun k _ _ => s k (by omega))⟩
  · rw [h1 7 (by omega), s 0 (by omega)]; exact a1.1
  · rw [h1 8 (by omega), s 1 (by omega)]; exact a1.2.1
  · rw [su_at]; exact h9
  · rw [h1 10 (by omega), s 3 (by omega)]; exact a1.2.2.2
theorem rok.set {S : Nat → Nat} {t : Nat} (h : rok S) (h1 : S 2 ≤ t) (h2 : t ≤ 4) : rok (su S 2 t) := by
  obtain ⟨⟨a1, a2, a3, a4⟩, b1, b2, b3, b4, b5⟩ := h
  have s : ∀ k, k ≠ 2 → su S 2 t k = S k := fun k hk => su_ne hk
  refine ⟨⟨by rw [s 0 (by omega)]; exact a1, by rw [s 1 (by omega)]; exact a2, by rw [su_at]; exact h2, by rw [su_at, s 3 (by omega)]; omega⟩, b1.fr (fun k _ _ => s k (by omega)), b2.fr (fun k _ _ => s k (by omega)), b3.fr (fun k _ _ => s k (by omega)), b4.fr (fun k _ _ => s k (by omega)), ?_⟩
  show su S 2 t 4 ≤ 60
  rw [s 4 (by omega)]; exact b5
theorem op_text : P_text (Inv LW) := by
  intro V L hI
  obtain ⟨S, K, a1, a2, a3, a4, a5, a6, a7, a8, a9, a10, a11⟩ := id hI
  have h19 : V 1 9 = nI (S 2) := a3.1.2.2.1
  have h66 : V 66 2 = nI (S 2) := a4.at (by omega) (by omega)
  have hS2 : S 2 ≤ 4 := a1.1.2.2.1
  by_cases c4 : S 2 = 4
  · refine ⟨-1, V, V, ?_, ?_, hI⟩
    · unfold f_Ww_text f_Shelf_at
      rw [h19, c4, show f_Ww_within (nI 4) 4 = 0 by decide, if_pos rfl]; rfl
    · unfold f_Md_text
      rw [h66, c4, if_neg (fun z => z rfl)]
  obtain ⟨t, ht⟩ : ∃ t, t = S 2 := ⟨_, rfl⟩
  rw [← ht] at h19 h66 hS2 c4 a7 a11
  have t4 : t < 4 := by omega
  have hq : qk (26 + 5 * t) := by unfold qk; omega
  obtain ⟨n, hn, e17, e65, hb⟩ := a8
  obtain ⟨B, hB⟩ := fchoice (α := Nat) 0 n hb
  have hBB : ∀ i, i < n → B i < 256 := fun i hi => (hB i hi).1
  have hTP : TP V B n := ⟨hn, e17, fun i hi => ⟨(hB i hi).1, (hB i hi).2.1⟩⟩
  obtain ⟨N, V4, k1, hT, hRC, k4, k5, k6⟩ := read_c hq hTP
  have hN := hT.2.1
  have hN0 := hT.1
  have joint : ∀ W : xV, W 66 2 = nI t → W 65 3 = nI n → W 68 = V 68 → ∃ W0, f_Md_text W = g_Md_text_102 2000 W0 ∧ W0 65 17 = -1 ∧ W0 65 3 = 0 ∧ (∀ r, r < 65 ∨ (66 ≤ r ∧ r < 74) → W0 r = W r) ∧ W0 65 35 = W 65 35 ∧ cRes B n N (26 + 5 * t) (g_Reader_read_42 (26 + 5 * t) 2000 (nI 0) V4) V4 W0 0 (fun j => kdT B n j = 37) := by
    intro W w1 w2 w3
    obtain ⟨W0, b1, b2, b3, b4, b5, b6, b7⟩ := text_m (B := B) (n := n) hn t4 w1 w2 (fun i hi => ⟨(hB i hi).1, by rw [w3]; exact (hB i hi).2.2⟩)
    refine ⟨W0, b1, b4, b5, b6, b7, read_loop hT hBB hq N 0 2000 0 V4 W0 0 0 0 (fun _ => 0) ⟨hRC, b2, ⟨Nat.le_refl _, Nat.le_refl _⟩, fun w hw => Or.inl ⟨rfl, (k4 w hw).1, (k4 w hw).2, (b3 w hw).1, (b3 w hw).2⟩, rfl, fun x hx => absurd hx (Nat.not_lt_zero _)⟩ hN0 (by omega) (by omega) (Nat.le_refl _)⟩
  have hw : f_Ww_text V = Option.bind (g_Reader_read_42 (26 + 5 * t) 2000 (nI 0) V4) fun p5 => if ¬ p5.1 = 0 then some (((x2 (x2 p5.2 17 1 0) 1 9 (((x2 p5.2 17 1 0) 1 9) + 1)) 1 9) - 1, x2 (x2 p5.2 17 1 0) 1 9 (((x2 p5.2 17 1 0) 1 9) + 1)) else some ((-1), x2 p5.2 17 1 0) := by
    unfold f_Ww_text f_Shelf_at
    rw [h19, show f_Ww_within (nI t) 4 = 1 from within_in (n := 4) t4 (by decide), if_neg (by decide), if_pos (xI_ok t4 (by decide)), cl (by omega), Option.bind_some]
    show (if lawB (26 + 5 * t) = true then _ else none) = _
    rw [if_pos hq.law, k1]
  obtain ⟨W00, -, -, -, -, -, first⟩ := joint V h66 e65 rfl
  rcases first with ⟨f0, j0, V', -, -, -, e1, -, -, e4, -⟩ | ⟨j0, -, -, -, -, V', -, -, -, -, -, e1, e4, -⟩
  · -- a FAULT
    have rw1 : ∀ r, ¬ (46 ≤ r ∧ r ≤ 50) → ¬ (26 + 5 * t ≤ r ∧ r ≤ 26 + 5 * t + 4) → r ≠ 17 → x2 V' 17 1 0 r = V r := fun r r1 r2 r3 => by rw [x2_ne r3, e4.1 r (by omega) r2, k6 r r1 r2]
    obtain ⟨W0, b1, b2, b3, b4, b5, second⟩ := joint (x2 V' 17 1 0) (by rw [rw1 66 (by omega) (by omega) (by omega)]; exact h66) (by rw [rw1 65 (by omega) (by omega) (by omega)]; exact e65) (rw1 68 (by omega) (by omega) (by omega))
    have hno : ¬ ∃ V2 : xV, g_Reader_read_42 (26 + 5 * t) 2000 (nI 0) V4 = some (1, V2) := fun ⟨V2, z⟩ => absurd (congrArg Prod.fst (Option.some.inj (e1.symm.trans z))) (show ¬ (0 : Int32) = 1 by decide)
    rcases second with ⟨f, j, V2, f1, j1, j2, d1, d2, d3, d4, c, W1, d5, d6, d7, d8, d9⟩ | ⟨_, _, _, _, _, V2, _, _, _, _, _, d1, _⟩
    · have eV : V2 = V' := (congrArg Prod.snd (Option.some.inj (e1.symm.trans d1))).symm
      subst eV
      obtain ⟨y, hy⟩ : ∃ y, 2000 = (y + 1) + c := ⟨2000 - c - 1, by omega⟩
      have run : g_Md_text_102 2000 W0 = some (-1, x2 (x2 W1 65 4 (nI f)) 65 5 (nI (plT B n j))) := by
        rw [hy, d6 (y + 1)]
        show b_Md_text_102 _ _ = _
        have f0 : ¬ nI f = 0 := fun z => by have := nI_small (b := 0) (by omega) (by decide) z; omega
        unfold b_Md_text_102
        rw [d7, if_pos f0]
        unfold b_Md_text_195
        rw [d7, x2_off (show ¬ (65 = 65 ∧ 17 = 4) by omega), d8, x2_off (show ¬ (65 = 65 ∧ 16 = 5) by omega), x2_off (show ¬ (65 = 65 ∧ 16 = 4) by omega), d7, if_neg (show ¬ nI f ≤ 0 from nI_ge (a := 0) (by omega) (by omega))]
      refine ⟨-1, x2 V2 17 1 0, x2 (x2 W1 65 4 (nI f)) 65 5 (nI (plT B n j)), ?_, by rw [b1]; exact run, ?_⟩
      · rw [hw, e1, Option.bind_some, if_neg (fun z => z rfl)]
      · obtain ⟨Z, hZ⟩ : ∃ Z, Z = x2 (x2 W1 65 4 (nI f)) 65 5 (nI (plT B n j)) := ⟨_, rfl⟩
        rw [← hZ]
        have z1 : ∀ r, r < 65 ∨ (66 ≤ r ∧ r < 74) → Z r = x2 V2 17 1 0 r := fun r hr => by rw [hZ, x2_ne (by omega), x2_ne (by omega), d9.1 r hr, b4 r hr]
        have z2 : ∀ r, r < 65 ∨ (66 ≤ r ∧ r < 74) → ¬ (46 ≤ r ∧ r ≤ 50) → ¬ (26 + 5 * t ≤ r ∧ r ≤ 26 + 5 * t + 4) → r ≠ 17 → Z r = V r := fun r r0 r1 r2 r3 => by rw [z1 r r0]; exact rw1 r r1 r2 r3
        have z65 : ∀ k, k < 12 ∨ k = 35 → k ≠ 4 → k ≠ 5 → Z 65 k = W0 65 k := fun k hk h4 h5 => by rw [hZ, x2_off (by omega), x2_off (by omega), d9.2 k hk]
        have z46 : ∀ k, Z 46 k = V2 46 k := fun k => by rw [z1 46 (by omega), x2_ne (by omega)]
        refine ⟨S, K, a1, a2, a3.fr (fun r r1 r2 => z2 r (by omega) (by omega) (by omega) (by omega)), a4.fr (z2 66 (by omega) (by omega) (by omega) (by omega)), a5.fr (fun r r1 r2 => z2 r (by omega) (by omega) (by omega) (by omega)), a6.fr (z2 67 (by omega) (by omega) (by omega) (by omega)), by rw [← ht]; exact a7, ⟨0, Nat.zero_le _, ?_, ?_, fun i hi => absurd hi (Nat.not_lt_zero _)⟩, Or.inr ⟨?_, ?_, ?_⟩, ⟨?_, ?_, ?_, ?_⟩, ?_⟩
        · rw [z1 17 (by omega), x2_at]; rfl
        · rw [z65 3 (by omega) (by omega) (by omega), b3]; rfl
        · rw [z46, d4.2]; exact k5.1
        · rw [z46, d2, hZ, x2_off (by omega), x2_at]
        · rw [z46, d3, hZ, x2_at]
        · rw [z2 51 (by omega) (by omega) (by omega) (by omega)]; exact a10.1
        · rw [z65 35 (by omega) (by omega) (by omega), b5, rw1 65 (by omega) (by omega) (by omega)]; exact a10.2.1
        · rw [z2 20 (by omega) (by omega) (by omega) (by omega)]; exact a10.2.2.1
        · rw [z2 22 (by omega) (by omega) (by omega) (by omega), z2 23 (by omega) (by omega) (by omega) (by omega)]; exact a10.2.2.2
        · rw [← ht]
          exact ⟨a11.1, fun jj hj => (a11.2 jj hj).fr (by omega) (fun r r1 r2 => z2 r (by omega) (by omega) (by omega) (by omega)) (fun r r1 r2 => z2 r (by omega) (by omega) (by omega) (by omega))⟩
    · exact absurd ⟨V2, d1⟩ hno
  · -- a TEXT
    have v19 : x2 V' 17 1 0 1 9 = nI t := by rw [x2_ne (by decide), e4.1 1 (by omega) (by omega), k6 1 (by omega) (by omega)]; exact h19
    obtain ⟨V1, hV1⟩ : ∃ V1, V1 = x2 (x2 V' 17 1 0) 1 9 (nI (t + 1)) := ⟨_, rfl⟩
    have rw1 : ∀ r, ¬ (46 ≤ r ∧ r ≤ 50) → ¬ (26 + 5 * t ≤ r ∧ r ≤ 26 + 5 * t + 4) → r ≠ 17 → r ≠ 1 → V1 r = V r := fun r r1 r2 r3 r4 => by rw [hV1, x2_ne r4, x2_ne r3, e4.1 r (by omega) r2, k6 r r1 r2]
    have rw2 : ∀ r, r ≠ 17 → r ≠ 1 → V1 r = V' r := fun r r1 r2 => by rw [hV1, x2_ne r2, x2_ne r1]
    obtain ⟨W0, b1, b2, b3, b4, b5, second⟩ := joint V1 (by rw [rw1 66 (by omega) (by omega) (by omega) (by omega)]; exact h66) (by rw [rw1 65 (by omega) (by omega) (by omega) (by omega)]; exact e65) (rw1 68 (by omega) (by omega) (by omega) (by omega))
    have hno : ¬ ∃ V2 : xV, g_Reader_read_42 (26 + 5 * t) 2000 (nI 0) V4 = some (0, V2) := fun ⟨V2, z⟩ => absurd (congrArg Prod.fst (Option.some.inj (e1.symm.trans z))) (show ¬ (1 : Int32) = 0 by decide)
    rcases second with ⟨_, _, V2, _, _, _, d1, _⟩ | ⟨j, len, m, nc, p, V2, c, W1, j1, j2, j3, d1, d2, d3, d4, d5, hR⟩
    · exact absurd ⟨V2, d1⟩ hno
    · have eV : V2 = V' := (congrArg Prod.snd (Option.some.inj (e1.symm.trans d1))).symm
      subst eV
      obtain ⟨hC, hM, ⟨hl1, hm1⟩, hcl, hnc, hord⟩ := hR
      obtain ⟨m1, m2, m3, m4, m5, m6, m7, m8⟩ := hM
      obtain ⟨y, hy⟩ : ∃ y, 2000 = (y + 1) + c := ⟨2000 - c - 1, by omega⟩
      have s14 : W1 65 14 = 0 := by
        obtain ⟨-, -, -, ha⟩ := m1
        rcases ha with ⟨q1, q2, q3⟩ | ⟨⟨q0, q1⟩, q2, q3⟩ | ⟨q1, q2, q3⟩ | ⟨q1, q2⟩ | ⟨q1, q2⟩
        · omega
        · omega
        · omega
        · omega
        · exact q2
      have s17 : W1 65 17 = -1 := by rw [d5.2]; exact b2
      have s66 : W1 66 2 = nI t := by rw [d5.1.1 66 (by omega), b4 66 (by omega), rw1 66 (by omega) (by omega) (by omega) (by omega)]; exact h66
      have nc6 : nc ≤ 6 := by
        have hall : ∀ w, w < 6 → p w ≤ 1 := fun w hw => by rcases hcl w hw with ⟨e, -⟩ | ⟨e, -⟩ <;> omega
        have z0 := hall 0 (by omega)
        have z1 := hall 1 (by omega)
        have z2 := hall 2 (by omega)
        have z3 := hall 3 (by omega)
        have z4 := hall 4 (by omega)
        have z5 := hall 5 (by omega)
        omega
      obtain ⟨X, hX⟩ : ∃ X, X = x2 (x2 (x2 W1 65 4 0) 65 5 (-1)) 69 t (nI nc) := ⟨_, rfl⟩
      obtain ⟨Y, y1, y2, y3, y4⟩ := t239 t4 6 0 2000 X rfl (by decide)
      have x65 : ∀ k, k ≠ 4 → k ≠ 5 → X 65 k = W1 65 k := fun k h4 h5 => by rw [hX, x2_ne (by decide), x2_off (by omega), x2_off (by omega)]
      have xr : ∀ r, r ≠ 65 → r ≠ 69 → X r = W1 r := fun r r1 r2 => by rw [hX, x2_ne r2, x2_ne r1, x2_ne r1]
      obtain ⟨Q, q1, q2, q3, q4⟩ := t307 (m := m) t4 (by omega) m 0 2000 Y (by omega) (by omega) (by rw [y4 65 (by decide) (by decide), x65 30 (by decide) (by decide)]; exact m7)
      have u66 : Q 66 2 = nI t := by rw [q4 66 (by decide) (by decide), y4 66 (by decide) (by decide), xr 66 (by decide) (by decide)]; exact s66
      have run : g_Md_text_102 2000 W0 = some (nI t, x2 Q 66 2 (nI (t + 1))) := by
        rw [hy, d4 (y + 1)]
        show b_Md_text_102 _ _ = _
        unfold b_Md_text_102
        rw [m2, if_neg (fun z => z rfl), m3, if_neg (fun z => z (by decide)), s14, if_pos rfl]
        unfold b_Md_text_195
        have g16 : x2 (x2 W1 65 4 0) 65 5 (-1) 65 16 = 0 := by rw [x2_off (by omega), x2_off (by omega)]; exact m2
        have g66 : x2 (x2 W1 65 4 0) 65 5 (-1) 66 2 = nI t := by rw [x2_ne (by decide), x2_ne (by decide)]; exact s66
        have g26 : x2 (x2 W1 65 4 0) 65 5 (-1) 65 26 = nI nc := by rw [x2_off (by omega), x2_off (by omega)]; exact m8
        rw [m2, x2_off (show ¬ (65 = 65 ∧ 17 = 4) by omega), s17, g16, if_pos (by decide), g66, if_pos (xI_ok t4 (by decide)), cl (by omega), g26, ← hX, show g_Md_text_239 2000 (nI t) 0 X = _ from y1, show g_Md_text_307 2000 (nI t) 0 Y = _ from q1, u66, nI_1]
      refine ⟨nI t, V1, x2 Q 66 2 (nI (t + 1)), ?_, by rw [b1]; exact run, ?_⟩
      · rw [hw, e1, Option.bind_some, if_pos (show ¬ (1 : Int32) = 0 by decide)]
        show some ((x2 (x2 V2 17 1 0) 1 9 (x2 V2 17 1 0 1 9 + 1)) 1 9 - 1, x2 (x2 V2 17 1 0) 1 9 (x2 V2 17 1 0 1 9 + 1)) = _
        rw [v19, nI_1, ← hV1]
        rw [show V1 1 9 = nI (t + 1) by rw [hV1, x2_at], nI_pred]
      · obtain ⟨Z, hZ⟩ : ∃ Z, Z = x2 Q 66 2 (nI (t + 1)) := ⟨_, rfl⟩
        rw [← hZ]
        have zW : ∀ r, r ≠ 65 → ¬ (69 ≤ r ∧ r ≤ 73) → r ≠ 66 → Z r = W1 r := fun r r1 r2 r3 => by rw [hZ, x2_ne r3, q4 r (by omega) (by omega), y4 r (by omega) (by omega), xr r r1 (by omega)]
        have zV : ∀ r, r < 65 ∨ r = 67 ∨ r = 68 → Z r = V1 r := fun r hr => by rw [zW r (by omega) (by omega) (by omega), d5.1.1 r (by omega), b4 r (by omega)]
        have z2 : ∀ r, r < 65 ∨ r = 67 → ¬ (46 ≤ r ∧ r ≤ 50) → ¬ (26 + 5 * t ≤ r ∧ r ≤ 26 + 5 * t + 4) → r ≠ 17 → r ≠ 1 → Z r = V r := fun r r0 r1 r2 r3 r4 => by rw [zV r (by omega)]; exact rw1 r r1 r2 r3 r4
        have zC : ∀ r, r < 65 → r ≠ 17 → r ≠ 1 → Z r = V2 r := fun r r0 r1 r2 => by rw [zV r (by omega)]; exact rw2 r r1 r2
        have z65 : ∀ k, k ≠ 4 → k ≠ 5 → Z 65 k = W1 65 k := fun k h4 h5 => by rw [hZ, x2_ne (by decide), q4 65 (by decide) (by decide), y4 65 (by decide) (by decide), x65 k h4 h5]
        have z69 : ∀ jj, Z 69 jj = if jj = t then nI nc else V 69 jj := fun jj => by
          rw [hZ, x2_ne (by decide), q4 69 (by decide) (by decide), y4 69 (by decide) (by decide), hX]
          by_cases e : jj = t
          · rw [e, x2_at, if_pos rfl]
          · rw [x2_off (by omega), if_neg e, x2_ne (by decide), x2_ne (by decide), d5.1.1 69 (by omega), b4 69 (by omega), rw1 69 (by omega) (by omega) (by omega) (by omega)]
        have w70 : ∀ r, 70 ≤ r → r ≤ 73 → X r = V r := fun r r1 r2 => by rw [xr r (by omega) (by omega), d5.1.1 r (by omega), b4 r (by omega), rw1 r (by omega) (by omega) (by omega) (by omega)]
        have z70 : ∀ x, ¬ (6 * t ≤ x ∧ x < 6 * t + 6) → Z 70 x = V 70 x ∧ Z 71 x = V 71 x := fun x hx => by
          rw [hZ, x2_ne (by decide), x2_ne (by decide), q4 70 (by decide) (by decide), q4 71 (by decide) (by decide), (y3 x (by omega)).1, (y3 x (by omega)).2, w70 70 (by omega) (by omega), w70 71 (by omega) (by omega)]
          exact ⟨rfl, rfl⟩
        have z72 : ∀ x, x < 400 * t → Z 72 x = V 72 x ∧ Z 73 x = V 73 x := fun x hx => by
          rw [hZ, x2_ne (by decide), x2_ne (by decide), (q3 x (by omega)).1, (q3 x (by omega)).2, y4 72 (by decide) (by decide), y4 73 (by decide) (by decide), w70 72 (by omega) (by omega), w70 73 (by omega) (by omega)]
          exact ⟨rfl, rfl⟩
        have z7 : ∀ w, w < 6 → Z 70 (6 * t + w) = (if W1 78 w = -1 then -1 else nI (400 * t) + W1 78 w) ∧ Z 71 (6 * t + w) = W1 79 w := fun w hw => by
          obtain ⟨p1, p2⟩ := y2 w (by omega) hw
          rw [hZ, x2_ne (by decide), x2_ne (by decide), q4 70 (by decide) (by decide), q4 71 (by decide) (by decide), p1, p2, xr 78 (by decide) (by decide), xr 79 (by decide) (by decide)]
          exact ⟨rfl, rfl⟩
        have z80 : ∀ x, x < m → Z 72 (400 * t + x) = W1 80 x ∧ Z 73 (400 * t + x) = W1 81 x := fun x hx => by
          obtain ⟨p1, p2⟩ := q2 x (by omega) hx
          rw [hZ, x2_ne (by decide), x2_ne (by decide), p1, p2, y4 80 (by decide) (by decide), y4 81 (by decide) (by decide), xr 80 (by decide) (by decide), xr 81 (by decide) (by decide)]
          exact ⟨rfl, rfl⟩
        have hLt : LJ Z t := by
          refine ⟨nc, nc6, ?_, by rw [z69, if_pos rfl], fun w hw => ?_, fun x hx => ?_⟩
          · rw [zC (26 + 5 * t) (by omega) (by omega) (by omega)]; exact hC.2.2.2.2.2
          · rcases hcl w hw with ⟨-, c1, c2, c3, c4'⟩ | ⟨-, s, C, M, v, d, k, x, g1, g2, g3, g4, g5, g6, g7, g8, g9, g10, g11, g12⟩
            · left
              refine ⟨?_, ?_, ?_, ?_⟩
              · rw [zC (28 + 5 * t) (by omega) (by omega) (by omega), show 28 + 5 * t = 26 + 5 * t + 2 by omega]; exact c1
              · rw [zC (29 + 5 * t) (by omega) (by omega) (by omega), show 29 + 5 * t = 26 + 5 * t + 3 by omega]; exact c2
              · rw [(z7 w hw).1, if_pos c3]
              · rw [(z7 w hw).2]; exact c4'
            · right
              refine ⟨s, C, M, v, d, 400 * t + k, x, 0, g1, g2, ?_, ?_, by omega, ?_, ?_, by omega, ?_, ?_, g11, ?_⟩
              · rw [zC (28 + 5 * t) (by omega) (by omega) (by omega), show 28 + 5 * t = 26 + 5 * t + 2 by omega]; exact g3
              · rw [zC (29 + 5 * t) (by omega) (by omega) (by omega), show 29 + 5 * t = 26 + 5 * t + 3 by omega]; exact g4
              · rw [show 27 + 5 * t = 26 + 5 * t + 1 by omega]
                exact cA_fr (fun i _ _ => by rw [zC (26 + 5 * t + 1) (by omega) (by omega) (by omega)]) g6
              · rw [(z7 w hw).1, g7, if_neg (nI_m1 (by omega)), nI_add]
              · exact oA_of g9 (fun y' _ hy' => z80 y' (by rw [List.length_append] at hy'; have hy' : y' < k + (M.length + 1) := hy'; omega))
              · rw [(z7 w hw).2]; exact g10
              · rw [zC (30 + 5 * t) (by omega) (by omega) (by omega), show 30 + 5 * t = 26 + 5 * t + 4 by omega]; exact g12
          · obtain ⟨w, w1, w2, w3⟩ := hord x hx
            refine ⟨w, w1, ?_, by rw [(z7 w w1).2]; exact w3⟩
            rw [zC (30 + 5 * t) (by omega) (by omega) (by omega), show 30 + 5 * t = 26 + 5 * t + 4 by omega]; exact w2
        refine ⟨su S 2 (t + 1), K, a1.set (by omega) (by omega), a2, a3.set a1.2.2.2.2.2 (fun k hk => ?_) ?_ (fun r r1 r2 => z2 r (by omega) (by omega) (by omega) (by omega) (by omega)), ⟨?_, fun k k1 k3 => ?_⟩, a5.fr (fun r r1 r2 => z2 r (by omega) (by omega) (by omega) (by omega) (by omega)), a6.fr (z2 67 (by omega) (by omega) (by omega) (by omega) (by omega)), by rw [su_at]; omega, ⟨0, Nat.zero_le _, ?_, ?_, fun i hi => absurd hi (Nat.not_lt_zero _)⟩, Or.inr ⟨?_, ?_, ?_⟩, ⟨?_, ?_, ?_, ?_⟩, ?_⟩
        · rw [zV 1 (by omega), hV1, x2_off (by omega), x2_ne (by decide), e4.1 1 (by omega) (by omega), k6 1 (by omega) (by omega)]
        · rw [zV 1 (by omega), hV1, x2_at]
        · rw [su_ne (by omega), hZ, x2_off (by omega), q4 66 (by decide) (by decide), y4 66 (by decide) (by decide), xr 66 (by decide) (by decide), d5.1.1 66 (by omega), b4 66 (by omega), rw1 66 (by omega) (by omega) (by omega) (by omega)]; exact a4.1
        · by_cases e : k = 2
          · subst e; rw [hZ, x2_at, su_at]
          · rw [su_ne e, hZ, x2_off (by omega), q4 66 (by decide) (by decide), y4 66 (by decide) (by decide), xr 66 (by decide) (by decide), d5.1.1 66 (by omega), b4 66 (by omega), rw1 66 (by omega) (by omega) (by omega) (by omega)]; exact a4.2 k k1 k3
        · rw [zV 17 (by omega), hV1, x2_ne (by decide), x2_at]; rfl
        · rw [z65 3 (by omega) (by omega), d5.1.2 3 (by omega), b3]; rfl
        · rw [zC 46 (by omega) (by omega) (by omega), e4.2 0 (by omega)]; exact k5.1
        · rw [zC 46 (by omega) (by omega) (by omega), e4.2 1 (by omega), k5.2.1, hZ, x2_ne (by decide), q4 65 (by decide) (by decide), y4 65 (by decide) (by decide), hX, x2_ne (by decide), x2_off (by omega), x2_at]
        · rw [zC 46 (by omega) (by omega) (by omega), e4.2 2 (by omega), k5.2.2, hZ, x2_ne (by decide), q4 65 (by decide) (by decide), y4 65 (by decide) (by decide), hX, x2_ne (by decide), x2_at]
        · rw [z2 51 (by omega) (by omega) (by omega) (by omega) (by omega)]; exact a10.1
        · rw [z65 35 (by omega) (by omega), d5.1.2 35 (by omega), b5, rw1 65 (by omega) (by omega) (by omega) (by omega)]; exact a10.2.1
        · rw [z2 20 (by omega) (by omega) (by omega) (by omega) (by omega)]; exact a10.2.2.1
        · rw [z2 22 (by omega) (by omega) (by omega) (by omega) (by omega), z2 23 (by omega) (by omega) (by omega) (by omega) (by omega)]; exact a10.2.2.2
        · rw [su_at]
          refine ⟨by omega, fun jj hj => ?_⟩
          by_cases e : jj = t
          · rw [e]; exact hLt
          · exact (a11.2 jj (by omega)).fr2 (by omega) (fun r r1 r2 => z2 r (by omega) (by omega) (by omega) (by omega) (by omega)) (by rw [z69, if_neg e]) (fun w hw => z70 _ (by omega)) (fun x hx => z72 x (by omega))
