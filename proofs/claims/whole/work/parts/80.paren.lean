/-! PURE: text, brackets and minus -/
section JP
variable {B : Nat → Nat} {n N q wc : Nat} {i : Nat}
/-- a bracket is opened by the model: a SUM begins -/
theorem open_S2 (h : TX B n N q wc) {W : xV} {k fr o w m : Nat} (hW : S1 B n wc W i k fr o w m) (hk : o + k < 8) (hi : i + 1 < N) : ∃ W1, f_Md_opensSign 6 W = some (1, W1) ∧ S2 B n wc W1 (i + 1) (fr + k + 1) (o + k + 1) w m ∧ W1 74 (fr + k) = 6 ∧ MF W W1 (fr + k) w m := by
  obtain ⟨a1, a2, a3, a4, a5, a6, a7⟩ := hW
  obtain ⟨W1, b1, b2, b3, b4⟩ := sign_m h.1 a1 hk (by omega) hi 6
  refine ⟨W1, b1, ⟨b2, ⟨fr + k, rfl, by rw [b3]; decide⟩, by omega, by omega, fun x hx => ?_, by omega⟩, b3, b4⟩
  obtain ⟨g, g1, g2⟩ := a6 x hx
  exact ⟨g, by omega, by rw [(b4.2.2.2.1 x hx).2]; exact g2⟩
theorem one_paren (h : TX B n N q wc) (rs : Int32 → xV → Option (Int32 × xV)) {k o : Nat} (hi : i < N) (hk : o + k ≤ 8) (h32 : kdT B n i = 32) (HS : o + k < 8 → ∀ i, i < N → J2 B n N q wc (rs (nI (o + k + 1))) (o + k + 1) i) : J1 B n N q wc (b_Reader_readOne_50 rs (nI o) (nI (o + k))) k o (1 + 2 * (8 - o)) i := by
  have hN := h.1.2.1
  have hi1 : i + 1 < N := h.nx hi (by omega)
  have hb : ∀ {W : xV} {fr w m : Nat}, S1 B n wc W i k fr o w m → f_Md_begins W = Option.bind (f_Md_opensSign 6 W) fun p => some p.2 := fun hW => by rw [beg_other hW.1.1 (by omega) (by omega), if_pos h32]
  by_cases c8 : o + k = 8
  · refine leafNo h hi (f := 3) (by omega) (fun V len hV => ?_) (fun W fr w m hW => ?_)
    · unfold b_Reader_readOne_50
      rw [kind_at hV hi hN, Option.bind_some, h32, if_pos (by decide), c8, if_neg (by decide)]
      rfl
    · have h1 := hW.1
      rw [c8] at h1
      obtain ⟨W', r, e1, e2, e3, e4⟩ := sign_8 h1 6
      exact ⟨W', by rw [hb hW, e1, Option.bind_some], e2, e3, e4⟩
  have hk' : o + k < 8 := by omega
  have hc : ∀ V len, CS B n N q wc V i len → b_Reader_readOne_50 rs (nI o) (nI (o + k)) V = Option.bind (rs (nI (o + k + 1)) (x2 V 46 5 (V 46 5 + 1))) fun p13 => if ¬ p13.1 = 0 then (Option.bind (f_Reader_kind p13.2) fun p16 => if p16 = 33 then b_Reader_readOne_161 rs (nI o) (nI (o + k)) p13.2 else Option.bind (f_Reader_wrong 1 p13.2) fun p19 => if p19.1 = 0 ∨ p19.1 = 1 then some (p19.1, p19.2) else none) else some (0, p13.2) := by
    intro V len hV
    unfold b_Reader_readOne_50
    rw [kind_at hV hi hN, Option.bind_some, h32, if_pos (by decide), if_pos (show nI (o + k) < 8 from nI_lt (b := 8) hk' (by decide)), nI_1]
  rcases HS hk' (i + 1) hi1 with ⟨f, j, f1, j1, j2, hcn, hmn⟩ | ⟨j, C, M, v, d, j1, j2, jk, hG, hd, hC, hM, hco, hmo⟩
  · refine Or.inl ⟨f, j, f1, by omega, j2, fun V len hV hl => ?_, fun W fr w m hW => ?_⟩
    · have ha := adv h.2.2.1 hV
      obtain ⟨V', e1, e2, e3, e4⟩ := hcn _ len ha.1 (by omega)
      refine ⟨V', ?_, e2, e3, ha.2.2.x e4⟩
      rw [hc V len hV, e1, Option.bind_some, if_neg (fun z => z rfl)]
    · obtain ⟨W1, b1, b2, b3, b4⟩ := open_S2 h hW hk' hi1
      obtain ⟨c, W', c1, c2, c3, c4, c5⟩ := hmn W1 _ _ _ b2
      exact ⟨1 + c, W', by omega, (MS.s1 hW.1.2.1 hW.1.2.2.1 (by rw [hb hW, b1, Option.bind_some])).tr c2, c3, c4, b4.x.tr c5⟩
  · by_cases c33 : kdT B n j = 33
    · have hj1 : j + 1 < N := h.nx j2 (by omega)
      have hG2 := good_un hG 38 402 (Or.inl ⟨rfl, rfl, rfl⟩) k
      refine Or.inr ⟨j + 1, _, _, _, _, by omega, hj1, hG2, by omega, ?_, ?_, fun V len hV hl => ?_, fun W fr w m hW => ?_⟩
      · rw [List.length_append]
        by_cases c : k % 2 = 1
        · rw [if_pos c]
          show C.length + 1 ≤ _
          omega
        · rw [if_neg c]
          show C.length + 0 ≤ _
          omega
      · rw [List.length_append, List.length_replicate]
        omega
      · have ha := adv h.2.2.1 hV
        obtain ⟨V1, e1, e2⟩ := hco _ len ha.1 (by omega)
        obtain ⟨V2, d1, d2⟩ := c161 h rs e2.1 (o := o) (k := k) (by omega) (fun c => by omega)
        refine ⟨V2, ?_, CE.tr (C1 := []) ha (e2.tr d2)⟩
        rw [hc V len hV, e1, Option.bind_some, if_pos (show ¬ (1 : Int32) = 0 by decide), kind_at e2.1 j2 hN, Option.bind_some, c33, if_pos (by decide)]
        exact d1
      · obtain ⟨W1, b1, b2, b3, b4⟩ := open_S2 h hW hk' hi1
        obtain ⟨c, W2, c1, c2, ⟨w', m', c3⟩, c4, c5⟩ := hmo W1 _ _ _ b2
        obtain ⟨W3, d1, d2, d3⟩ := c5 3 (Or.inr rfl)
        have hf := d2.fo (fr + k) (o + k)
        obtain ⟨W4, g1, g2, g3⟩ := hf.next h.1 hj1
        have e4 : MF W3 W4 (fr + k) w (m + M.length) := ((MF.s65 (by omega) _ _ _).tr (MF.s65 (by omega) _ _ _) (Nat.le_refl _) (Nat.le_refl _) (Nat.le_refl _)).tr (MF.nf g3 _ _ _) (Nat.le_refl _) (Nat.le_refl _) (Nat.le_refl _)
        have m3 : MR W W3 (fr + k) w m M := MR.fm (m' := m) b4 d3 (by omega) (Nat.le_refl _)
        have m4 : MR W W4 (fr + k) w m M := by
          have := MR.tr (M2 := []) m3 ⟨trivial, e4⟩ (Nat.le_refl _) (Nat.le_refl _)
          rw [List.append_nil] at this
          exact this
        have a7 := hW.2.2.2.2.2.2
        obtain ⟨W5, p1, p2, p3⟩ := over_S1 hW g2 m4.2 hk (by omega)
        have top2 : f_Md_top W2 = some 6 := by rw [top_m (fr := fr + k) c3.2.2.2.1 (by have := hW.2.2.2.1; omega), c4.2.2.1 _ (by omega), b3]
        have go : f_Md_goesOn W2 = some W5 := by
          rw [go_65 c3.1 jk, top2, Option.bind_some]
          unfold b_Md_goesOn_65
          rw [if_neg (fun z => z rfl), show f_Md_isSign 41 W2 = _ from isSign_at c3.1 (x := 33) (by decide) (by decide), if_pos c33, if_neg (by decide), d1, Option.bind_some, d2.2.2.2.1, show nI (fr + k + 1) - 1 = nI (fr + k) from nI_pred _, x2_off (show ¬ (65 = 65 ∧ 18 = 19) by omega), d2.2.2.2.2.1, show nI (o + k + 1) - 1 = nI (o + k) from nI_pred _, g1, Option.bind_some, p1, Option.bind_some]
        refine ⟨1 + c + 1, W5, by omega, ((MS.s1 hW.1.2.1 hW.1.2.2.1 (by rw [hb hW, b1, Option.bind_some])).tr c2).tr (MS.s2 c3.2.1 c3.2.2.1 go), ?_, MR.tr ⟨m4.1, m4.2.le (by omega) (Nat.le_refl _) (Nat.le_refl _)⟩ p3 (Nat.le_refl _) (Nat.le_refl _)⟩
        rw [List.length_append, List.length_replicate, ← Nat.add_assoc]; exact p2
    · refine Or.inl ⟨1, j, by omega, by omega, j2, fun V len hV hl => ?_, fun W fr w m hW => ?_⟩
      · have ha := adv h.2.2.1 hV
        obtain ⟨V1, e1, e2⟩ := hco _ len ha.1 (by omega)
        obtain ⟨V2, d1, d2, d3, d4⟩ := wrong_rd h e2.1 j2 1
        refine ⟨V2, ?_, d2, d3, ha.2.2.x (e2.2.2.x d4)⟩
        have hkl := kdT_le (n := n) h.2.1 j
        rw [hc V len hV, e1, Option.bind_some, if_pos (show ¬ (1 : Int32) = 0 by decide), kind_at e2.1 j2 hN, Option.bind_some, if_neg (show ¬ nI (kdT B n j) = 33 from fun z => c33 (nI_small (b := 33) (by omega) (by decide) z))]
        exact d1
      · obtain ⟨W1, b1, b2, b3, b4⟩ := open_S2 h hW hk' hi1
        obtain ⟨c, W2, c1, c2, ⟨w', m', c3⟩, c4, c5⟩ := hmo W1 _ _ _ b2
        have top2 : f_Md_top W2 = some 6 := by rw [top_m (fr := fr + k) c3.2.2.2.1 (by have := hW.2.2.2.1; omega), c4.2.2.1 _ (by omega), b3]
        have go : f_Md_goesOn W2 = some (f_Md_errs 1 W2) := by
          rw [go_65 c3.1 jk, top2, Option.bind_some]
          unfold b_Md_goesOn_65
          rw [if_neg (fun z => z rfl), show f_Md_isSign 41 W2 = _ from isSign_at c3.1 (x := 33) (by decide) (by decide), if_neg c33, if_pos rfl]
          unfold b_Md_goesOn_116 b_Md_goesOn_181
          rw [if_pos (by decide), if_pos (by decide), if_pos (by decide)]
        obtain ⟨x1, x2', x3⟩ := err_m c3.1 c3.2.1 1
        exact ⟨1 + c + 1, _, by omega, ((MS.s1 hW.1.2.1 hW.1.2.2.1 (by rw [hb hW, b1, Option.bind_some])).tr c2).tr (MS.s2 c3.2.1 c3.2.2.1 go), x1, x2', b4.x.tr (c4.x.tr x3)⟩
theorem one_chain (h : TX B n N q wc) (rs : Int32 → xV → Option (Int32 × xV)) {o : Nat} (HS : ∀ k, o + k < 8 → ∀ i, i < N → J2 B n N q wc (rs (nI (o + k + 1))) (o + k + 1) i) : ∀ (x k u i : Nat), o + k + x = 8 → 9 ≤ u + k → i < N → J1 B n N q wc (g_Reader_readOne_4 rs u (nI o) (nI (o + k)) (nI k)) k o (1 + 2 * (8 - o)) i
  | x, k, 0, i, h1, h2, hi => by omega
  | x, k, u + 1, i, h1, h2, hi => by
    have hN := h.1.2.1
    have hkl := kdT_le (n := n) h.2.1 i
    have rd : ∀ V, (∃ len, CS B n N q wc V i len) → g_Reader_readOne_4 rs (u + 1) (nI o) (nI (o + k)) (nI k) V = if kdT B n i = 29 then (if o + k < 8 then g_Reader_readOne_4 rs u (nI o) (nI (o + k + 1)) (nI (k + 1)) (x2 V 46 5 (V 46 5 + 1)) else Option.bind (f_Reader_wrong 3 V) fun p6 => if p6.1 = 0 ∨ p6.1 = 1 then some (p6.1, p6.2) else none) else b_Reader_readOne_50 rs (nI o) (nI (o + k)) V := by
      rintro V ⟨len, hV⟩
      show b_Reader_readOne_4 _ _ _ _ _ _ = _
      unfold b_Reader_readOne_4
      rw [if_neg (show ¬ (8 : Int32) < nI k from nI_nlt (a := 8) (by omega) (by decide)), kind_at hV hi hN, Option.bind_some, nI_1, nI_1]
      by_cases c : kdT B n i = 29
      · rw [if_neg (fun z => z (by rw [c]; rfl)), if_pos c]
        by_cases c2 : o + k < 8
        · rw [if_pos (show nI (o + k) < 8 from nI_lt (b := 8) c2 (by decide)), if_pos c2]
        · rw [if_neg (show ¬ nI (o + k) < 8 from nI_nlt (b := 8) (by omega) (by omega)), if_neg c2]
      · rw [if_pos (show ¬ nI (kdT B n i) = 29 from fun z => c (nI_small (b := 29) (by omega) (by decide) z)), if_neg c]
    by_cases c : kdT B n i = 29
    · have hi1 : i + 1 < N := h.nx hi (by omega)
      have hb : ∀ {W : xV} {fr w m : Nat}, S1 B n wc W i k fr o w m → f_Md_begins W = Option.bind (f_Md_opensSign 7 W) fun p => some p.2 := fun hW => by rw [beg_other hW.1.1 (by omega) (by omega), if_neg (by omega), if_pos c]
      by_cases c8 : o + k < 8
      · obtain ⟨y, rfl⟩ : ∃ y, x = y + 1 := ⟨x - 1, by omega⟩
        have mstep : ∀ {W : xV} {fr w m : Nat}, S1 B n wc W i k fr o w m → ∃ W1, MS 1 W W1 ∧ S1 B n wc W1 (i + 1) (k + 1) fr o w m ∧ MF W W1 fr w m := by
          intro W fr w m hW
          obtain ⟨a1, a2, ⟨g, a3, a3'⟩, a4, a5, a6, a7⟩ := id hW
          obtain ⟨W1, b1, b2, b3, b4⟩ := sign_m h.1 a1 c8 (by omega) hi1 7
          have b5 : MF W W1 fr w m := b4.le (by omega) (Nat.le_refl _) (Nat.le_refl _)
          refine ⟨W1, MS.s1 a1.2.1 a1.2.2.1 (by rw [hb hW, b1, Option.bind_some]), ⟨b2, fun x hx => ?_, ⟨g, a3, by rw [b4.2.2.1 g (by omega)]; exact a3'⟩, a4, a5, fun x hx => by rw [(b4.2.2.2.1 x hx).2]; exact a6 x hx, by omega⟩, b5⟩
          by_cases e : x = k
          · rw [e]; exact b3
          · rw [b4.2.2.1 _ (by omega)]; exact a2 x (by omega)
        rcases one_chain h rs HS y (k + 1) u (i + 1) (by omega) (by omega) hi1 with ⟨f, j, f1, j1, j2, hcn, hmn⟩ | ⟨j, C, M, v, d, j1, j2, hG, hd, hC, hM, hco, hmo⟩
        · refine Or.inl ⟨f, j, f1, by omega, j2, fun V len hV hl => ?_, fun W fr w m hW => ?_⟩
          · have ha := adv h.2.2.1 hV
            obtain ⟨V', e1, e2, e3, e4⟩ := hcn _ len ha.1 (by omega)
            refine ⟨V', ?_, e2, e3, ha.2.2.x e4⟩
            rw [rd V ⟨len, hV⟩, if_pos c, if_pos c8]; exact e1
          · obtain ⟨W1, b1, b2, b3⟩ := mstep hW
            obtain ⟨cc, W', c1, c2, c3, c4, c5⟩ := hmn W1 _ _ _ b2
            exact ⟨1 + cc, W', by omega, b1.tr c2, c3, c4, b3.x.tr c5⟩
        · refine Or.inr ⟨j, C, M, v, d, by omega, j2, hG, hd, by omega, by omega, fun V len hV hl => ?_, fun W fr w m hW => ?_⟩
          · have ha := adv h.2.2.1 hV
            obtain ⟨V', e1, e2⟩ := hco _ len ha.1 (by omega)
            refine ⟨V', ?_, CE.tr (C1 := []) ha e2⟩
            rw [rd V ⟨len, hV⟩, if_pos c, if_pos c8]; exact e1
          · obtain ⟨W1, b1, b2, b3⟩ := mstep hW
            obtain ⟨cc, W', c1, c2, c3, c4⟩ := hmo W1 _ _ _ b2
            exact ⟨1 + cc, W', by omega, b1.tr c2, c3, MR.fm (m' := m) b3 c4 (Nat.le_refl _) (Nat.le_refl _)⟩
      · have e8 : o + k = 8 := by omega
        refine leafNo h hi (f := 3) (by omega) (fun V len hV => ?_) (fun W fr w m hW => ?_)
        · rw [rd V ⟨len, hV⟩, if_pos c, if_neg c8]; rfl
        · have h1 := hW.1
          rw [e8] at h1
          obtain ⟨W', r, e1, e2, e3, e4⟩ := sign_8 h1 7
          exact ⟨W', by rw [hb hW, e1, Option.bind_some], e2, e3, e4⟩
    · have base : J1 B n N q wc (b_Reader_readOne_50 rs (nI o) (nI (o + k))) k o (1 + 2 * (8 - o)) i := by
        by_cases c32 : kdT B n i = 32
        · exact one_paren h rs hi (by omega) c32 (HS k)
        · exact one_plain h rs hi (by omega) (by omega) c32 c
      rcases base with ⟨f, j, f1, j1, j2, hcn, hmn⟩ | ⟨j, C, M, v, d, j1, j2, hG, hd, hC, hM, hco, hmo⟩
      · exact Or.inl ⟨f, j, f1, j1, j2, fun V len hV hl => by rw [rd V ⟨len, hV⟩, if_neg c]; exact hcn V len hV hl, hmn⟩
      · exact Or.inr ⟨j, C, M, v, d, j1, j2, hG, hd, hC, hM, fun V len hV hl => by rw [rd V ⟨len, hV⟩, if_neg c]; exact hco V len hV hl, hmo⟩
end JP
